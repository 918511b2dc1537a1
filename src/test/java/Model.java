import java.util.ArrayList;
import java.util.Arrays;
import java.util.List;
import java.util.TreeMap;

/**
 * A second reading of the document, written otherwise than the program (lists, labels, recursion,
 * exceptions), so that both can be compared.
 */
final class Model {
    static final class Fault extends RuntimeException {
        private static final long serialVersionUID = 1L;
        final int number;
        final int place;

        Fault(int number, int place) {
            this.number = number;
            this.place = place;
        }
    }

    private static final class Thrown extends RuntimeException {
        private static final long serialVersionUID = 1L;
        final int kind;
        final int place;
        final int method;

        Thrown(int kind, int place, int method) {
            this.kind = kind;
            this.place = place;
            this.method = method;
        }
    }

    private static final class Limit extends RuntimeException {
        private static final long serialVersionUID = 1L;
    }

    static final class Ins {
        int place;
        int op;
        int size;
        int n;
        int value;
        int[] targets = {};
        String stack;
        char[] locals;
        Label group = new Label();
        Label self = new Label();
    }

    static final class Meth {
        int number;
        int arguments;
        int locals;
        int length;
        int[] bytes;
        final TreeMap<Integer, Ins> code = new TreeMap<>();
        final List<int[]> handlers = new ArrayList<>();
        Weft weft;
    }

    static final class Probe {
        int number;
        int sort;
        int method;
        int place;
        int x;
        int y;
        int passings;
    }

    static final class Label {
        int at;
    }

    private static final class Piece {
        final Label start = new Label();
        int[] bytes = {};
        int jumpOp = -1;
        Label to;
        List<Label> table;
        boolean ofCode;
        boolean grew;
    }

    /** The WOVEN code. */
    static final class Weft {
        int[] bytes;
        final List<int[]> handlers = new ArrayList<>();
        int grown;
        int pads;
        final TreeMap<Integer, Integer> moved = new TreeMap<>();
        List<Probe> probes;
    }

    /** What a RUN left. */
    static final class Told {
        int ending;
        int answer;
        int steps;
        int rows;
        int frames;
        int place = -1;
        int method = -1;
        int recordCount;
        final int[] fields = new int[8];
        final List<Integer> marks = new ArrayList<>();
        final List<int[]> records = new ArrayList<>();
    }

    final List<Meth> methods = new ArrayList<>();
    final List<Probe> probes = new ArrayList<>();
    private Told told;
    private boolean watching;
    private int limit;
    private int depth;

    // ---- reading

    Meth read(int[] tape) {
        Meth m = new Meth();
        m.number = methods.size();
        m.arguments = byteOf(tape, 0);
        form(m.arguments <= 4, 0);
        m.locals = byteOf(tape, 1);
        form(m.locals >= m.arguments && m.locals <= 12, 1);
        m.length = byteOf(tape, 2) * 256 + byteOf(tape, 3);
        form(m.length >= 1 && m.length <= 400, 2);
        int place = 0;
        while (place < m.length) {
            Ins ins = readIns(m, tape, place);
            m.code.put(place, ins);
            place += ins.size;
        }
        m.bytes = Arrays.copyOfRange(tape, 4, 4 + m.length);
        int at = 4 + m.length;
        int many = byteOf(tape, at);
        form(many <= 8, at);
        at++;
        for (int k = 0; k < many; k++, at += 7) {
            int[] h = new int[4];
            for (int i = 0; i < 3; i++) {
                h[i] = byteOf(tape, at + 2 * i) * 256 + byteOf(tape, at + 2 * i + 1);
            }
            h[3] = byteOf(tape, at + 6);
            m.handlers.add(h);
        }
        form(tape.length == at, at);
        checkJumps(m);
        checkHandlers(m);
        checkTypes(m);
        methods.add(m);
        return m;
    }

    private static int byteOf(int[] tape, int at) {
        if (at >= tape.length) {
            throw new Fault(1, tape.length);
        }
        return tape[at];
    }

    private static void form(boolean well, int place) {
        if (!well) {
            throw new Fault(1, place);
        }
    }

    private static int s8(int b) {
        return b > 127 ? b - 256 : b;
    }

    private static int s16(int high, int low) {
        int u = high * 256 + low;
        return u > 32767 ? u - 65536 : u;
    }

    private static String operands(int op) {
        switch (op) {
            case 1: return "b";
            case 2: return "w";
            case 3: case 4: return "n";
            case 5: return "nb";
            case 33: return "t";
            case 34: case 35: return "f";
            case 40: return "m";
            default:
                return op >= 20 && op <= 32 ? "j" : op >= 84 && op <= 96 ? "J" : op >= 0 && op <= 43 ? "" : null;
        }
    }

    private Ins readIns(Meth m, int[] tape, int place) {
        int at = 4 + place;
        Ins ins = new Ins();
        ins.place = place;
        ins.op = byteOf(tape, at);
        String operands = operands(ins.op);
        form(operands != null, at);
        ins.size = 1;
        for (char c : operands.toCharArray()) {
            if (c == 't') {
                form(place + 1 < m.length, at);
                ins.n = byteOf(tape, at + 1);
                form(ins.n >= 1 && ins.n <= 16, at + 1);
            }
            ins.size += c == 'w' ? 4 : c == 'J' ? 2 : c == 't' ? 3 + 2 * ins.n : 1;
        }
        form(place + ins.size <= m.length, at);
        if (operands.startsWith("n")) {
            ins.n = byteOf(tape, at + 1);
            form(ins.n < m.locals, at + 1);
            ins.value = ins.op == 5 ? s8(byteOf(tape, at + 2)) : 0;
        } else if (operands.equals("f") || operands.equals("m")) {
            ins.n = byteOf(tape, at + 1);
            form(ins.n <= (operands.equals("f") ? 7 : m.number), at + 1);
        } else if (operands.equals("b")) {
            ins.value = s8(byteOf(tape, at + 1));
        } else if (operands.equals("w")) {
            for (int i = 1; i <= 4; i++) {
                ins.value = ins.value * 256 + byteOf(tape, at + i);
            }
        } else if (operands.equals("j")) {
            ins.targets = new int[] {place + s8(byteOf(tape, at + 1))};
        } else if (operands.equals("J")) {
            ins.targets = new int[] {place + s16(byteOf(tape, at + 1), byteOf(tape, at + 2))};
        } else if (operands.equals("t")) {
            ins.targets = new int[ins.n + 1];
            for (int i = 0; i <= ins.n; i++) {
                ins.targets[i] = place + s16(byteOf(tape, at + 2 + 2 * i), byteOf(tape, at + 3 + 2 * i));
            }
        }
        return ins;
    }

    private static void checkJumps(Meth m) {
        for (Ins ins : m.code.values()) {
            for (int target : ins.targets) {
                if (!m.code.containsKey(target)) {
                    throw new Fault(2, 4 + ins.place);
                }
            }
        }
    }

    private static void checkHandlers(Meth m) {
        for (int k = 0; k < m.handlers.size(); k++) {
            int[] h = m.handlers.get(k);
            boolean well = m.code.containsKey(h[0]) && (h[1] == m.length || m.code.containsKey(h[1]))
                    && m.code.containsKey(h[2]) && h[0] < h[1];
            if (!well) {
                throw new Fault(3, 5 + m.length + 7 * k);
            }
        }
    }

    // ---- types: texts of I and R, passed over and over until nothing changes

    private void checkTypes(Meth m) {
        char[] first = new char[m.locals];
        Arrays.fill(first, '-');
        Arrays.fill(first, 0, m.arguments, 'I');
        boolean[] changed = {true};
        arrive(m, 0, "", first, changed);
        while (changed[0]) {
            changed[0] = false;
            for (Ins ins : m.code.values()) {
                if (ins.stack != null) {
                    for (int[] h : m.handlers) {
                        if (h[0] <= ins.place && ins.place < h[1]) {
                            arrive(m, h[2], "I", ins.locals, changed);
                        }
                    }
                    flow(m, ins, changed);
                }
            }
        }
    }

    private static void types(boolean well) {
        if (!well) {
            throw new Fault(4, 0);
        }
    }

    private static void arrive(Meth m, int place, String stack, char[] locals, boolean[] changed) {
        Ins ins = m.code.get(place);
        types(ins != null && stack.length() <= 10);
        if (ins.stack == null) {
            ins.stack = stack;
            ins.locals = locals.clone();
            changed[0] = true;
        }
        types(ins.stack.equals(stack));
        for (int n = 0; n < locals.length; n++) {
            if (ins.locals[n] != locals[n] && ins.locals[n] != '-') {
                ins.locals[n] = '-';
                changed[0] = true;
            }
        }
    }

    private void flow(Meth m, Ins ins, boolean[] changed) {
        char[] locals = ins.locals.clone();
        String stack = ins.stack;
        int h = stack.length();
        int op = ins.op >= 84 ? ins.op - 64 : ins.op;
        String takes = takes(ins, op);
        types(h >= takes.length());
        String taken = stack.substring(h - takes.length());
        for (int i = 0; i < takes.length(); i++) {
            types(takes.charAt(i) == 'v' || takes.charAt(i) == taken.charAt(i));
        }
        String puts = op == 6 ? taken + taken : op == 8 ? taken.substring(1) + taken.charAt(0) : op == 36 ? "R" : "";
        if (op == 1 || op == 2 || op >= 9 && op <= 19 || op == 34 || op == 37 || op == 38 || op == 40) {
            puts = "I";
        }
        if (op == 3) {
            types(locals[ins.n] != '-');
            puts = "" + locals[ins.n];
        } else if (op == 4) {
            locals[ins.n] = taken.charAt(0);
        } else if (op == 5) {
            types(locals[ins.n] == 'I');
        }
        stack = stack.substring(0, h - takes.length()) + puts;
        for (int target : ins.targets) {
            arrive(m, target, stack, locals, changed);
        }
        if (op != 20 && op != 33 && op != 41 && op != 42) {
            arrive(m, ins.place + ins.size, stack, locals, changed);
        }
    }

    private String takes(Ins ins, int op) {
        if (op == 40) {
            int many = ins.n == methods.size() ? argumentsOfNew : methods.get(ins.n).arguments;
            return "IIII".substring(0, many);
        }
        if (op >= 9 && op <= 18 || op >= 27 && op <= 32) {
            return "II";
        }
        if (op == 19 || op >= 21 && op <= 26 || op == 33 || op == 35 || op == 36 || op >= 41) {
            return "I";
        }
        return op == 4 || op == 6 || op == 7 ? "v" : op == 8 ? "vv" : op == 37 ? "R" : op == 38 ? "RI"
                : op == 39 ? "RII" : "";
    }

    private int argumentsOfNew;

    /** As make(): a METHOD's number or -10 less a FAULT; place[0] gets the place. */
    int make(int[] tape, int[] place) {
        place[0] = -1;
        if (methods.size() == 6) {
            return -3;
        }
        argumentsOfNew = tape.length > 0 ? tape[0] : 0;
        try {
            return read(tape).number;
        } catch (Fault f) {
            place[0] = f.place;
            return -10 - f.number;
        }
    }

    // ---- probes

    int probe(int sort, int m, int place, int x, int y) {
        if (m < 0 || m >= methods.size() || !methods.get(m).code.containsKey(place)) {
            return -2;
        }
        int op = methods.get(m).code.get(place).op;
        boolean well;
        switch (sort) {
            case 0: well = true; break;
            case 1: well = op >= 21 && op <= 32 || op >= 85 && op <= 96; break;
            case 2: case 3: well = place == 0; break;
            case 4: well = op == 35 || op == 39; break;
            case 5: well = methods.get(m).handlers.stream().anyMatch(h -> h[2] == place); break;
            case 6: well = x >= 1 && x <= 1000 && y >= 1 && y <= 100; break;
            case 7: well = List.of(1, 2, 9, 10, 11, 12, 13, 14, 15, 16, 17, 18, 19, 34, 37, 38, 40).contains(op); break;
            default: well = false;
        }
        if (!well) {
            return -2;
        }
        if (probes.size() == 24) {
            return -3;
        }
        Probe p = new Probe();
        p.number = probes.size();
        p.sort = sort;
        p.method = m;
        p.place = place;
        p.x = x;
        p.y = y;
        probes.add(p);
        return p.number;
    }

    void clear() {
        probes.clear();
        for (Meth m : methods) {
            m.weft = null;
        }
    }

    private List<Probe> at(List<Probe> among, Meth m, int place, Integer... sorts) {
        List<Probe> found = new ArrayList<>();
        for (Probe p : among) {
            if (p.method == m.number && p.place == place && Arrays.asList(sorts).contains(p.sort)) {
                found.add(p);
            }
        }
        return found;
    }

    // ---- weaving: pieces with labels

    int weave(int number) {
        Meth m = methods.get(number);
        List<Piece> pieces = new ArrayList<>();
        for (Ins ins : m.code.values()) {
            ins.group = new Label();
            ins.self = new Label();
        }
        Label end = new Label();
        List<Object[]> labels = new ArrayList<>();
        for (Probe p : at(probes, m, 0, 2)) {
            add(pieces, 50, p.number);
        }
        List<Ins> withSides = new ArrayList<>();
        TreeMap<Integer, Label> padOf = new TreeMap<>();
        for (Ins ins : m.code.values()) {
            labels.add(new Object[] {ins.group, pieces.size()});
            for (Probe p : at(probes, m, ins.place, 0, 6)) {
                add(pieces, p.sort == 0 ? 48 : 56, p.number);
            }
            if (ins.op == 42) {
                for (Probe p : at(probes, m, 0, 3)) {
                    add(pieces, 51, p.number);
                }
            }
            for (Probe p : at(probes, m, ins.place, 4)) {
                add(pieces, 53, p.number);
            }
            if (!at(probes, m, ins.place, 1).isEmpty()) {
                withSides.add(ins);
                padOf.put(ins.place, new Label());
            }
            labels.add(new Object[] {ins.self, pieces.size()});
            pieces.add(pieceOf(m, ins, padOf.get(ins.place)));
            for (Probe p : at(probes, m, ins.place, 1, 4, 7)) {
                if (p.sort == 1) {
                    add(pieces, 49, p.number, 0);
                } else {
                    add(pieces, p.sort == 4 ? 54 : 57, p.number);
                }
            }
        }
        labels.add(new Object[] {end, pieces.size()});
        Weft weft = new Weft();
        for (Ins ins : withSides) {
            weft.pads++;
            labels.add(new Object[] {padOf.get(ins.place), pieces.size()});
            for (Probe p : at(probes, m, ins.place, 1)) {
                add(pieces, 49, p.number, 1);
            }
            pieces.add(jump(20, m.code.get(ins.targets[0]).group));
        }
        List<Object[]> handlers = new ArrayList<>();
        for (int[] h : m.handlers) {
            Label target = m.code.get(h[2]).group;
            if (!at(probes, m, h[2], 5).isEmpty()) {
                weft.pads++;
                Label to = target;
                target = new Label();
                labels.add(new Object[] {target, pieces.size()});
                for (Probe p : at(probes, m, h[2], 5)) {
                    add(pieces, 55, p.number);
                }
                pieces.add(jump(20, to));
            }
            handlers.add(new Object[] {m.code.get(h[0]).group, h[1] == m.length ? end : m.code.get(h[1]).group,
                target, h[3]});
        }
        if (!at(probes, m, 0, 3).isEmpty()) {
            weft.pads++;
            Label left = new Label();
            labels.add(new Object[] {left, pieces.size()});
            for (Probe p : at(probes, m, 0, 3)) {
                add(pieces, 52, p.number);
            }
            add(pieces, 58);
            handlers.add(new Object[] {m.code.get(0).group, end, left, 0});
        }
        assemble(pieces, labels, weft);
        if (weft.bytes.length > 1000) {
            return -3;
        }
        for (Object[] h : handlers) {
            weft.handlers.add(new int[] {((Label) h[0]).at, ((Label) h[1]).at, ((Label) h[2]).at, (Integer) h[3]});
        }
        for (Ins ins : m.code.values()) {
            weft.moved.put(ins.place, ins.self.at);
        }
        weft.probes = new ArrayList<>(probes);
        m.weft = weft;
        return weft.bytes.length;
    }

    private static void add(List<Piece> pieces, int... bytes) {
        Piece piece = new Piece();
        piece.bytes = bytes;
        pieces.add(piece);
    }

    private static Piece jump(int op, Label to) {
        Piece piece = new Piece();
        piece.jumpOp = op;
        piece.to = to;
        return piece;
    }

    private static Piece pieceOf(Meth m, Ins ins, Label pad) {
        Piece piece = new Piece();
        if (ins.op == 33) {
            piece.table = new ArrayList<>();
            for (int target : ins.targets) {
                piece.table.add(m.code.get(target).group);
            }
        } else if (ins.targets.length == 1) {
            piece = jump(ins.op, pad != null ? pad : m.code.get(ins.targets[0]).group);
            piece.ofCode = true;
        } else {
            piece.bytes = Arrays.copyOfRange(m.bytes, ins.place, ins.place + ins.size);
        }
        return piece;
    }

    private static void assemble(List<Piece> pieces, List<Object[]> labels, Weft weft) {
        List<Integer> out;
        boolean again;
        do {
            again = false;
            int at = 0;
            for (int i = 0; i <= pieces.size(); i++) {
                for (Object[] label : labels) {
                    if ((Integer) label[1] == i) {
                        ((Label) label[0]).at = at;
                    }
                }
                if (i < pieces.size()) {
                    Piece p = pieces.get(i);
                    p.start.at = at;
                    at += p.table != null ? 2 + 2 * p.table.size() : p.jumpOp >= 84 ? 3 : p.jumpOp >= 0 ? 2 : p.bytes.length;
                }
            }
            out = new ArrayList<>();
            for (Piece p : pieces) {
                if (p.jumpOp >= 0) {
                    int d = p.to.at - p.start.at;
                    if (p.jumpOp < 84 && (d < -128 || d > 127)) {
                        p.jumpOp += 64;
                        weft.grown += p.ofCode ? 1 : 0;
                        again = true;
                    }
                    out.add(p.jumpOp);
                    if (p.jumpOp >= 84) {
                        out.add(d >> 8 & 255);
                    }
                    out.add(d & 255);
                } else if (p.table != null) {
                    out.add(33);
                    out.add(p.table.size() - 1);
                    for (Label l : p.table) {
                        int d = l.at - p.start.at;
                        out.add(d >> 8 & 255);
                        out.add(d & 255);
                    }
                } else {
                    for (int b : p.bytes) {
                        out.add(b);
                    }
                }
            }
        } while (again);
        weft.bytes = out.stream().mapToInt(Integer::intValue).toArray();
    }

    // ---- running: a FRAME is a Java call, what is thrown a Java exception

    Told run(boolean watched, int m, int a, int b, int itsLimit) {
        told = new Told();
        watching = watched;
        limit = itsLimit;
        depth = 0;
        for (Probe p : probes) {
            p.passings = 0;
        }
        int[] given = {a, b, 0, 0};
        try {
            told.answer = frame(methods.get(m), Arrays.copyOf(given, methods.get(m).arguments));
            told.ending = 0;
        } catch (Thrown t) {
            told.ending = 1;
            told.answer = t.kind;
            told.place = t.place;
            told.method = t.method;
        } catch (Limit l) {
            told.ending = 2;
        }
        return told;
    }

    private List<Probe> watchedAt(Meth m, int place, Integer... sorts) {
        return watching && m.weft != null ? at(m.weft.probes, m, place, sorts) : List.of();
    }

    private void note(Probe p, int value) {
        told.recordCount++;
        if (told.records.size() < 400) {
            told.records.add(new int[] {p.number, value});
        }
    }

    private int frame(Meth m, int[] arguments) {
        depth++;
        told.frames = Math.max(told.frames, depth);
        for (Probe p : watchedAt(m, 0, 2)) {
            for (int v : arguments) {
                note(p, v);
            }
            if (arguments.length == 0) {
                note(p, 0);
            }
        }
        Object[] locals = new Object[m.locals];
        Arrays.fill(locals, 0);
        for (int i = 0; i < arguments.length; i++) {
            locals[i] = arguments[i];
        }
        List<Object> stack = new ArrayList<>();
        Ins ins = m.code.get(0);
        while (true) {
            try {
                int next = perform(m, ins, locals, stack);
                if (next < 0) {
                    depth--;
                    return (Integer) stack.get(stack.size() - 1);
                }
                ins = m.code.get(next);
            } catch (Thrown t) {
                int[] caught = null;
                for (int[] h : m.handlers) {
                    if (caught == null && h[0] <= ins.place && ins.place < h[1] && (h[3] == 0 || h[3] == t.kind)) {
                        caught = h;
                    }
                }
                if (caught == null) {
                    for (Probe p : watchedAt(m, 0, 3)) {
                        note(p, -t.kind);
                    }
                    depth--;
                    throw t;
                }
                stack.clear();
                stack.add(t.kind);
                for (Probe p : watchedAt(m, caught[2], 5)) {
                    note(p, t.kind);
                }
                ins = m.code.get(caught[2]);
            }
        }
    }

    /** The next place, or -1 behind a give. */
    private int perform(Meth m, Ins ins, Object[] locals, List<Object> stack) {
        for (Probe p : watchedAt(m, ins.place, 0, 6)) {
            if (p.sort == 0) {
                note(p, 0);
            } else {
                p.passings++;
                if (p.passings == p.x) {
                    throw new Thrown(p.y, ins.place, m.number);
                }
            }
        }
        if (ins.op == 42) {
            for (Probe p : watchedAt(m, 0, 3)) {
                note(p, (Integer) stack.get(stack.size() - 1));
            }
        }
        if (told.steps == limit) {
            throw new Limit();
        }
        told.steps++;
        int[] side = {0};
        int[] change = new int[2];
        int next = act(m, ins, locals, stack, side, change);
        for (Probe p : watchedAt(m, ins.place, 1, 4, 7)) {
            if (p.sort == 1) {
                note(p, side[0]);
            } else if (p.sort == 4) {
                note(p, change[0]);
                note(p, change[1]);
            } else {
                note(p, (Integer) stack.remove(stack.size() - 1));
                stack.add(p.x);
            }
        }
        return next;
    }

    private static int pop(List<Object> stack) {
        return (Integer) stack.remove(stack.size() - 1);
    }

    private int act(Meth m, Ins ins, Object[] locals, List<Object> stack, int[] side, int[] change) {
        int next = ins.place + ins.size;
        int top = stack.size() - 1;
        int op = ins.op >= 84 ? ins.op - 64 : ins.op;
        if (op >= 9 && op <= 18) {
            int j = pop(stack);
            int i = pop(stack);
            if ((op == 12 || op == 13) && j == 0) {
                throw new Thrown(101, ins.place, m.number);
            }
            stack.add(compute(op, i, j));
        } else if (op >= 21 && op <= 32) {
            long j = op >= 27 ? pop(stack) : 0;
            long i = pop(stack);
            boolean[] ways = {i == j, i != j, i < j, i >= j, i > j, i <= j};
            if (ways[(op - 21) % 6]) {
                side[0] = 1;
                next = ins.targets[0];
            }
        } else {
            switch (op) {
                case 1: case 2: stack.add(ins.value); break;
                case 3: stack.add(locals[ins.n]); break;
                case 4: locals[ins.n] = stack.remove(top); break;
                case 5: locals[ins.n] = (Integer) locals[ins.n] + ins.value; break;
                case 6: stack.add(stack.get(top)); break;
                case 7: stack.remove(top); break;
                case 8: stack.add(top - 1, stack.remove(top)); break;
                case 19: stack.add((int) -(long) pop(stack)); break;
                case 20: next = ins.targets[0]; break;
                case 33: {
                    int i = pop(stack);
                    next = ins.targets[i >= 0 && i < ins.n ? i + 1 : 0];
                    break;
                }
                case 34: stack.add(told.fields[ins.n]); break;
                case 35:
                    change[0] = told.fields[ins.n];
                    told.fields[ins.n] = pop(stack);
                    change[1] = told.fields[ins.n];
                    break;
                case 36: {
                    int i = pop(stack);
                    if (i < 0 || i > 50 || told.rows == 30) {
                        throw new Thrown(i < 0 || i > 50 ? 103 : 104, ins.place, m.number);
                    }
                    told.rows++;
                    stack.add(new int[i]);
                    break;
                }
                case 37: stack.add(((int[]) stack.remove(top)).length); break;
                case 38: case 39: {
                    int j = op == 39 ? pop(stack) : 0;
                    int i = pop(stack);
                    int[] row = (int[]) stack.remove(stack.size() - 1);
                    if (i < 0 || i >= row.length) {
                        throw new Thrown(102, ins.place, m.number);
                    }
                    change[0] = row[i];
                    if (op == 39) {
                        row[i] = j;
                        change[1] = j;
                    } else {
                        stack.add(row[i]);
                    }
                    break;
                }
                case 40: {
                    Meth callee = methods.get(ins.n);
                    if (depth == 12) {
                        throw new Thrown(105, ins.place, m.number);
                    }
                    int[] given = new int[callee.arguments];
                    for (int i = callee.arguments - 1; i >= 0; i--) {
                        given[i] = pop(stack);
                    }
                    stack.add(frame(callee, given));
                    break;
                }
                case 41: {
                    int i = pop(stack);
                    throw new Thrown(i >= 1 && i <= 99 ? i : 100, ins.place, m.number);
                }
                case 42: return -1;
                case 43: {
                    int i = pop(stack);
                    if (told.marks.size() < 60) {
                        told.marks.add(i);
                    }
                    break;
                }
                default: break;
            }
        }
        return next;
    }

    private static int compute(int op, int i, int j) {
        long a = i;
        long b = j;
        switch (op) {
            case 9: return (int) (a + b);
            case 10: return (int) (a - b);
            case 11: return (int) (a * b);
            case 12: return (int) (a / b);
            case 13: return (int) (a % b);
            case 14: return i & j;
            case 15: return i | j;
            case 16: return i ^ j;
            case 17: return (int) (a << (j & 31));
            default: return (int) (a >> (j & 31));
        }
    }
}
