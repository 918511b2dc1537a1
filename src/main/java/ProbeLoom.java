import java.util.Arrays;

/**
 * A loom for probes: methods of a small machine come as bytes, are judged, get probes, are woven
 * into longer code and are run plain, woven, and watched without weaving.
 */
public final class ProbeLoom {
    public static final int NONE = -1;
    public static final int BAD = -2;
    public static final int FULL = -3;

    private static final int TAPE_MOST = 600;
    private static final int FEED_BYTES = 20;
    private static final int METHODS_MOST = 6;
    private static final int ARGUMENTS_MOST = 4;
    private static final int LOCALS_MOST = 12;
    private static final int LENGTH_MOST = 400;
    private static final int HEAD_BYTES = 4;
    private static final int HANDLERS_MOST = 8;
    private static final int HANDLER_BYTES = 7;
    private static final int HANDLER_PARTS = 4;
    private static final int STACK_MOST = 10;
    private static final int TABLE_MOST = 16;
    private static final int FIELDS = 8;
    private static final int PROBES_MOST = 24;
    private static final int WOVEN_MOST = 1000;
    private static final int FRAMES_MOST = 12;
    private static final int MARKS_MOST = 60;
    private static final int RECORDS_MOST = 400;
    private static final int ROWS_MOST = 30;
    private static final int ROW_INTS_MOST = 50;
    private static final int LIMIT_MOST = 3000;
    private static final int MANNERS = 3;
    private static final int PASSINGS_MOST = 1000;

    private static final int FAULT_BASE = -10;
    private static final int FORM = 1;
    private static final int JUMP_FAULT = 2;
    private static final int HANDLER_FAULT = 3;
    private static final int TYPES_FAULT = 4;

    private static final int WOVEN_MANNER = 1;
    private static final int WATCHED_MANNER = 2;

    private static final int GOING = -1;
    private static final int ANSWERED = 0;
    private static final int THROWN = 1;
    private static final int AT_LIMIT = 2;

    private static final int DIVIDED_BY_ZERO = 101;
    private static final int NO_SUCH_INT = 102;
    private static final int ROW_LENGTH = 103;
    private static final int TOO_MANY_ROWS = 104;
    private static final int TOO_MANY_FRAMES = 105;
    private static final int OWN_KIND_MOST = 99;
    private static final int OTHER_KIND = 100;
    private static final int FAULT_KIND_MOST = 100;

    private static final int PUSH_BYTE = 1;
    private static final int PUSH_WORD = 2;
    private static final int LOAD = 3;
    private static final int STORE = 4;
    private static final int INC = 5;
    private static final int DUP = 6;
    private static final int POP = 7;
    private static final int SWAP = 8;
    private static final int ADD = 9;
    private static final int SUB = 10;
    private static final int MUL = 11;
    private static final int DIV = 12;
    private static final int REM = 13;
    private static final int AND = 14;
    private static final int OR = 15;
    private static final int XOR = 16;
    private static final int SHL = 17;
    private static final int SHR = 18;
    private static final int NEG = 19;
    private static final int JUMP = 20;
    private static final int JUMP_IF_FIRST = 21;
    private static final int JUMP_BY_TWO_FIRST = 27;
    private static final int JUMP_LAST = 32;
    private static final int TABLE = 33;
    private static final int GET = 34;
    private static final int PUT = 35;
    private static final int ROW = 36;
    private static final int SIZE = 37;
    private static final int TAKE = 38;
    private static final int LAY = 39;
    private static final int CALL = 40;
    private static final int THROW = 41;
    private static final int GIVE = 42;
    private static final int MARK = 43;
    private static final int LONG_FIRST = 84;
    private static final int LONG_LAST = 96;
    private static final int LONG_MORE = LONG_FIRST - JUMP;

    private static final int W_PASS = 48;
    private static final int W_SIDE = 49;
    private static final int W_ENTER = 50;
    private static final int W_LEAVE = 51;
    private static final int W_LEFT = 52;
    private static final int W_OLD = 53;
    private static final int W_NEW = 54;
    private static final int W_CAUGHT = 55;
    private static final int W_FAULT = 56;
    private static final int W_REPLACE = 57;
    private static final int W_AGAIN = 58;

    private static final int PASS_SORT = 0;
    private static final int SIDE_SORT = 1;
    private static final int ENTER_SORT = 2;
    private static final int LEAVE_SORT = 3;
    private static final int STORE_SORT = 4;
    private static final int CAUGHT_SORT = 5;
    private static final int FAULT_SORT = 6;
    private static final int REPLACE_SORT = 7;

    private static final int INT_TYPE = 1;
    private static final int ROW_TYPE = 2;
    private static final int NO_TYPE = 0;
    private static final int HEIGHT_SHIFT = 2 * STACK_MOST;
    private static final int STACK_TYPES = (1 << HEIGHT_SHIFT) - 1;
    private static final int JUST_AN_INT = (1 << HEIGHT_SHIFT) | INT_TYPE;
    // The lower bit of each LOCAL's two.
    private static final int LOCAL_LOW_BITS = 0x555555;

    // By OP, from 0 to mark; a table tells its size itself.
    private static final int[] SIZES = {
        1, 2, 5, 2, 2, 3, 1, 1, 1, 1, 1, 1, 1, 1, 1, 1, 1, 1, 1, 1,
        2, 2, 2, 2, 2, 2, 2, 2, 2, 2, 2, 2, 2, 0,
        2, 2, 1, 1, 1, 1, 2, 1, 1, 1
    };

    private final int[] tape = new int[TAPE_MOST];
    private final Method[] methods;
    private final Tale[] tales;
    private final Probes probes;
    private final Reader reader = new Reader();
    private final Judge judge = new Judge();
    private final Weaver weaver = new Weaver();
    private final Machine machine;
    private int tapeLength = 0;
    private int methodCount = 0;
    private int faultPlace = NONE;
    private int runCount = 0;

    public ProbeLoom() {
        Method[] allMethods = new Method[METHODS_MOST];
        for (int m = 0; m < METHODS_MOST; m++) {
            allMethods[m] = new Method(m);
        }
        Tale[] allTales = new Tale[MANNERS];
        for (int manner = 0; manner < MANNERS; manner++) {
            allTales[manner] = new Tale();
        }
        Probes allProbes = new Probes();
        methods = allMethods;
        tales = allTales;
        probes = allProbes;
        machine = new Machine(allMethods, allProbes, allTales[0]);
    }

    public int feed(int a, int b, int c, int d, int e) {
        if (tapeLength > TAPE_MOST - FEED_BYTES) {
            return FULL;
        }
        appendWord(a);
        appendWord(b);
        appendWord(c);
        appendWord(d);
        appendWord(e);
        return tapeLength;
    }

    public int cut(int n) {
        if (n < 0 || n > tapeLength) {
            return BAD;
        }
        tapeLength -= n;
        return tapeLength;
    }

    public int make() {
        int length = tapeLength;
        tapeLength = 0;
        faultPlace = NONE;
        if (methodCount < 0 || methodCount >= METHODS_MOST) {
            return FULL;
        }
        Method next = methods[methodCount];
        int fault = findFault(next, length);
        if (fault != 0) {
            return FAULT_BASE - fault;
        }
        methodCount++;
        return methodCount - 1;
    }

    public int place() {
        return faultPlace;
    }

    public int method(int m, int what) {
        if (!isMethod(m)) {
            return BAD;
        }
        return methods[m].tell(what);
    }

    public int octet(int m, boolean woven, int i) {
        if (!isMethod(m)) {
            return NONE;
        }
        Method of = methods[m];
        if (woven) {
            return i >= 0 && i < of.woven.lengthIfThere() ? byteAt(of.woven.code, i) : NONE;
        }
        return i >= 0 && i < of.length ? byteAt(of.code, i) : NONE;
    }

    public int handler(int m, boolean woven, int k, int what) {
        if (!isMethod(m) || k < 0 || what < 0 || what >= HANDLER_PARTS) {
            return NONE;
        }
        Method of = methods[m];
        if (woven) {
            return k < of.woven.handlersIfThere() ? handlerPart(of.woven.handlers, k, what) : NONE;
        }
        return k < of.handlerCount ? handlerPart(of.handlers, k, what) : NONE;
    }

    public int type(int m, int place, int what) {
        return isMethod(m) ? methods[m].typeBefore(place, what) : NONE;
    }

    public int moved(int m, int place) {
        if (!isMethod(m) || !methods[m].beginsAt(place) || !methods[m].woven.there) {
            return NONE;
        }
        return methods[m].woven.selves[place];
    }

    public int probe(int sort, int m, int place, int x, int y) {
        if (!isMethod(m) || !methods[m].takesProbe(sort, place)) {
            return BAD;
        }
        if (sort == FAULT_SORT && (x < 1 || x > PASSINGS_MOST || y < 1 || y > FAULT_KIND_MOST)) {
            return BAD;
        }
        if (probes.count >= PROBES_MOST) {
            return FULL;
        }
        return probes.add(sort, m, place, x, y);
    }

    public int clear() {
        int were = probes.count;
        probes.count = 0;
        for (int m = 0; m < METHODS_MOST; m++) {
            methods[m].woven.there = false;
        }
        return were;
    }

    public int weave(int m) {
        if (!isMethod(m)) {
            return BAD;
        }
        return weaver.weaveIn(methods[m], probes);
    }

    public int unweave(int m) {
        if (!isMethod(m)) {
            return BAD;
        }
        boolean was = methods[m].woven.there;
        methods[m].woven.there = false;
        return was ? 1 : 0;
    }

    public int run(int manner, int m, int a, int b, int limit) {
        if (!isManner(manner) || !isMethod(m) || limit < 1 || limit > LIMIT_MOST) {
            return BAD;
        }
        runCount++;
        Tale tale = tales[manner];
        machine.perform(tale, manner, methods[m], a, b, limit);
        return tale.ending;
    }

    public int told(int manner, int what) {
        return isManner(manner) ? tales[manner].tell(what) : BAD;
    }

    public int mark(int manner, int i) {
        return isManner(manner) ? tales[manner].markAt(i) : 0;
    }

    public int field(int manner, int f) {
        return isManner(manner) && f >= 0 && f < FIELDS ? tales[manner].fields[f] : 0;
    }

    public int record(int manner, int i, int what) {
        return isManner(manner) ? tales[manner].recordPart(i, what) : 0;
    }

    public int records(int manner, int probe) {
        return isManner(manner) ? tales[manner].recordsOf(probe) : 0;
    }

    public int differ() {
        Tale woven = tales[WOVEN_MANNER];
        Tale watched = tales[WATCHED_MANNER];
        int both = Math.min(woven.recordsKept(), watched.recordsKept());
        for (int i = 0; i < both; i++) {
            if (woven.recordPart(i, 0) != watched.recordPart(i, 0)
                    || woven.recordPart(i, 1) != watched.recordPart(i, 1)) {
                return i;
            }
        }
        return woven.recordsKept() == watched.recordsKept() ? NONE : both;
    }

    public int count(int what) {
        switch (what) {
            case 0:
                return methodCount;
            case 1:
                return probes.count;
            case 2:
                return tapeLength;
            case 3:
                return runCount;
            default:
                return BAD;
        }
    }

    private void appendWord(int word) {
        for (int shift = 24; shift >= 0; shift -= 8) {
            if (tapeLength >= 0 && tapeLength < TAPE_MOST) {
                tape[tapeLength] = (word >>> shift) & 255;
                tapeLength++;
            }
        }
    }

    /** The number of the FAULT, 0 if there is none; sets its place. */
    private int findFault(Method next, int length) {
        faultPlace = reader.formFault(tape, length, next);
        if (faultPlace != NONE) {
            return FORM;
        }
        faultPlace = next.jumpFault();
        if (faultPlace != NONE) {
            return JUMP_FAULT;
        }
        faultPlace = next.handlerFault();
        if (faultPlace != NONE) {
            return HANDLER_FAULT;
        }
        if (!judge.accepts(next, methods)) {
            faultPlace = 0;
            return TYPES_FAULT;
        }
        return 0;
    }

    private boolean isMethod(int m) {
        return m >= 0 && m < methodCount && m < METHODS_MOST;
    }

    private static boolean isManner(int manner) {
        return manner >= 0 && manner < MANNERS;
    }

    private static int byteAt(int[] code, int i) {
        return i >= 0 && i < code.length ? code[i] : 0;
    }

    private static int signedByteAt(int[] code, int i) {
        return i >= 0 && i < code.length ? (byte) code[i] : 0;
    }

    private static int signedPairAt(int[] code, int i) {
        return i >= 0 && i < code.length - 1 ? (short) (code[i] << 8 | code[i + 1]) : 0;
    }

    private static int wordAt(int[] code, int i) {
        return signedPairAt(code, i) << 16 | signedPairAt(code, i + 2) & 0xFFFF;
    }

    private static int handlerPart(int[] handlers, int k, int what) {
        int i = k * HANDLER_PARTS + what;
        return i >= 0 && i < handlers.length ? handlers[i] : NONE;
    }

    private static boolean isLongJump(int op) {
        return op >= LONG_FIRST && op <= LONG_LAST;
    }

    private static boolean isShortJump(int op) {
        return op >= JUMP && op <= JUMP_LAST;
    }

    /** A long jump's OP as that of the short one; others as they are. */
    private static int shortOf(int op) {
        return isLongJump(op) ? op - LONG_MORE : op;
    }

    private static boolean isChoice(int op) {
        int plain = shortOf(op);
        return plain >= JUMP_IF_FIRST && plain <= JUMP_LAST;
    }

    private static boolean isOp(int op) {
        return op >= 0 && op < SIZES.length || isLongJump(op);
    }

    /** 0 for a table, whose size hangs on its n, and for what is no OP. */
    private static int fixedSize(int op) {
        if (isLongJump(op)) {
            return 3;
        }
        return op >= 0 && op < SIZES.length ? SIZES[op] : 0;
    }

    private static int tableSize(int n) {
        return 4 + 2 * n;
    }

    private static int sizeAt(int[] code, int place) {
        int op = byteAt(code, place);
        return op == TABLE ? tableSize(byteAt(code, place + 1)) : fixedSize(op);
    }

    /** To how many places the INSTRUCTION can jump. */
    private static int targetCount(int[] code, int place) {
        int op = byteAt(code, place);
        if (op == TABLE) {
            return byteAt(code, place + 1) + 1;
        }
        return isShortJump(op) || isLongJump(op) ? 1 : 0;
    }

    /** Target k of a jump; of a table 0 is the one for all else, k the one of k - 1. */
    private static int targetAt(int[] code, int place, int k) {
        int op = byteAt(code, place);
        if (op == TABLE) {
            return place + signedPairAt(code, place + 2 + 2 * k);
        }
        return place + (isLongJump(op) ? signedPairAt(code, place + 1) : signedByteAt(code, place + 1));
    }

    /** Whether what stands behind the INSTRUCTION can be come to from it. */
    private static boolean goesOn(int op) {
        return op != JUMP && op != LONG_FIRST && op != TABLE && op != THROW && op != GIVE;
    }

    private static boolean isReplaceable(int op) {
        return op == PUSH_BYTE || op == PUSH_WORD || op >= ADD && op <= NEG
                || op == GET || op == SIZE || op == TAKE || op == CALL;
    }

    /** A METHOD as it was told, what was judged of it, and what was woven of it. */
    private static final class Method {
        final int number;
        final int[] code = new int[LENGTH_MOST];
        // 0 where no INSTRUCTION begins.
        final int[] sizes = new int[LENGTH_MOST];
        // The STACK before an INSTRUCTION: its height above two bits for each cell; NONE: not come to.
        final int[] stacks = new int[LENGTH_MOST];
        // Two bits for each LOCAL.
        final int[] localTypes = new int[LENGTH_MOST];
        final int[] handlers = new int[HANDLERS_MOST * HANDLER_PARTS];
        final Woven woven = new Woven();
        int arguments = 0;
        int locals = 0;
        int length = 0;
        int handlerCount = 0;

        Method(int itsNumber) {
            number = itsNumber;
        }

        boolean beginsAt(int place) {
            return place >= 0 && place < length && place < LENGTH_MOST && sizes[place] > 0;
        }

        int jumpFault() {
            for (int place = 0; place < length; place++) {
                if (beginsAt(place) && jumpsAstray(place)) {
                    return HEAD_BYTES + place;
                }
            }
            return NONE;
        }

        private boolean jumpsAstray(int place) {
            int targets = targetCount(code, place);
            for (int k = 0; k < targets; k++) {
                if (!beginsAt(targetAt(code, place, k))) {
                    return true;
                }
            }
            return false;
        }

        int handlerFault() {
            for (int k = 0; k < handlerCount; k++) {
                int from = handlerPart(handlers, k, 0);
                int to = handlerPart(handlers, k, 1);
                boolean endsWell = to == length || beginsAt(to);
                if (!beginsAt(from) || !endsWell || from >= to || !beginsAt(handlerPart(handlers, k, 2))) {
                    return HEAD_BYTES + length + 1 + HANDLER_BYTES * k;
                }
            }
            return NONE;
        }

        boolean takesProbe(int sort, int place) {
            if (!beginsAt(place)) {
                return false;
            }
            int op = code[place];
            switch (sort) {
                case PASS_SORT:
                case FAULT_SORT:
                    return true;
                case SIDE_SORT:
                    return isChoice(op);
                case ENTER_SORT:
                case LEAVE_SORT:
                    return place == 0;
                case STORE_SORT:
                    return op == PUT || op == LAY;
                case CAUGHT_SORT:
                    return isTarget(place);
                case REPLACE_SORT:
                    return isReplaceable(op);
                default:
                    return false;
            }
        }

        private boolean isTarget(int place) {
            for (int k = 0; k < handlerCount; k++) {
                if (handlerPart(handlers, k, 2) == place) {
                    return true;
                }
            }
            return false;
        }

        int tell(int what) {
            switch (what) {
                case 0:
                    return arguments;
                case 1:
                    return locals;
                case 2:
                    return length;
                case 3:
                    return handlerCount;
                case 4:
                    return instructionCount();
                case 5:
                    return greatestHeight();
                default:
                    return woven.tell(what);
            }
        }

        private int instructionCount() {
            int many = 0;
            for (int place = 0; place < length; place++) {
                if (beginsAt(place)) {
                    many++;
                }
            }
            return many;
        }

        private int greatestHeight() {
            int greatest = 0;
            for (int place = 0; place < length; place++) {
                if (isComeTo(place)) {
                    greatest = Math.max(greatest, stacks[place] >> HEIGHT_SHIFT);
                }
            }
            return greatest;
        }

        private boolean isComeTo(int place) {
            return beginsAt(place) && stacks[place] != NONE;
        }

        int typeBefore(int place, int what) {
            if (!isComeTo(place)) {
                return NONE;
            }
            int height = stacks[place] >> HEIGHT_SHIFT;
            if (what == 0) {
                return height;
            }
            if (what >= 1 && what <= locals) {
                return localTypes[place] >> 2 * (what - 1) & 3;
            }
            int cell = what - LOCALS_MOST - 1;
            return what > LOCALS_MOST && cell < height ? stacks[place] >> 2 * cell & 3 : NONE;
        }
    }

    /** What weave() made of a METHOD. */
    private static final class Woven {
        final int[] code = new int[WOVEN_MOST];
        // The place in the CODE to whose GROUP a byte belongs; NONE for ENTERs and PADS.
        final int[] homes = new int[WOVEN_MOST];
        final int[] selves = new int[LENGTH_MOST];
        // Where a GROUP holds more than its INSTRUCTION, so that watching looks at PROBES there alone.
        final boolean[] busy = new boolean[LENGTH_MOST];
        final int[] handlers = new int[(HANDLERS_MOST + 1) * HANDLER_PARTS];
        boolean there = false;
        int length = 0;
        int handlerCount = 0;
        int grown = 0;
        int pads = 0;
        // How many PROBES there were as it was woven: later ones say nothing in it.
        int probeCount = 0;

        int lengthIfThere() {
            return there ? length : 0;
        }

        int handlersIfThere() {
            return there ? handlerCount : 0;
        }

        int tell(int what) {
            switch (what) {
                case 6:
                    return there ? length : NONE;
                case 7:
                    return there ? handlerCount : NONE;
                case 8:
                    return there ? grown : NONE;
                case 9:
                    return there ? pads : NONE;
                default:
                    return BAD;
            }
        }

        int homeOf(int i) {
            return i >= 0 && i < WOVEN_MOST ? homes[i] : NONE;
        }

        boolean isBusyAt(int place) {
            return place >= 0 && place < LENGTH_MOST && busy[place];
        }
    }

    /** All PROBES, by their numbers. */
    private static final class Probes {
        final int[] sorts = new int[PROBES_MOST];
        final int[] owners = new int[PROBES_MOST];
        final int[] places = new int[PROBES_MOST];
        final int[] xs = new int[PROBES_MOST];
        final int[] ys = new int[PROBES_MOST];
        int count = 0;

        int add(int sort, int owner, int place, int x, int y) {
            if (count < 0 || count >= PROBES_MOST) {
                return FULL;
            }
            sorts[count] = sort;
            owners[count] = owner;
            places[count] = place;
            xs[count] = x;
            ys[count] = y;
            count++;
            return count - 1;
        }

        boolean isAt(int p, int owner, int place) {
            return p >= 0 && p < count && p < PROBES_MOST && owners[p] == owner && places[p] == place;
        }

        int sortOf(int p) {
            return p >= 0 && p < PROBES_MOST ? sorts[p] : NONE;
        }

        int xOf(int p) {
            return p >= 0 && p < PROBES_MOST ? xs[p] : 0;
        }

        int yOf(int p) {
            return p >= 0 && p < PROBES_MOST ? ys[p] : 0;
        }
    }

    /** Reads the TAPE into a METHOD and looks for FAULTS of FORM. */
    private static final class Reader {
        private int[] tape = new int[0];
        private int tapeLength = 0;

        /** The place of the first byte that is not as told, NONE if there is none. */
        int formFault(int[] bytes, int length, Method into) {
            tape = bytes;
            tapeLength = Math.min(length, bytes.length);
            int fault = headFault(into);
            if (fault == NONE) {
                fault = codeFault(into);
            }
            if (fault == NONE) {
                fault = tailFault(into);
            }
            return fault;
        }

        private int headFault(Method into) {
            into.arguments = byteAt(tape, 0);
            into.locals = byteAt(tape, 1);
            into.length = byteAt(tape, 2) << 8 | byteAt(tape, 3);
            if (tapeLength < 1) {
                return tapeLength;
            }
            if (into.arguments > ARGUMENTS_MOST) {
                return 0;
            }
            if (tapeLength < 2) {
                return tapeLength;
            }
            if (into.locals < into.arguments || into.locals > LOCALS_MOST) {
                return 1;
            }
            if (tapeLength < HEAD_BYTES) {
                return tapeLength;
            }
            return into.length < 1 || into.length > LENGTH_MOST ? 2 : NONE;
        }

        private int codeFault(Method into) {
            Arrays.fill(into.sizes, 0);
            int next = 0;
            for (int place = 0; place < into.length; place++) {
                if (place == next) {
                    int fault = instructionFault(into, place);
                    if (fault != NONE) {
                        return fault;
                    }
                    next = place + sizeAt(tape, HEAD_BYTES + place);
                    into.sizes[place] = next - place;
                }
                into.code[place] = byteAt(tape, HEAD_BYTES + place);
            }
            return NONE;
        }

        private int instructionFault(Method into, int place) {
            int at = HEAD_BYTES + place;
            if (at >= tapeLength) {
                return tapeLength;
            }
            int op = byteAt(tape, at);
            if (!isOp(op)) {
                return at;
            }
            if (op == TABLE) {
                return tableFault(into, place);
            }
            int size = fixedSize(op);
            if (place + size > into.length) {
                return at;
            }
            if (size > 1 && at + 1 < tapeLength && !operandFits(into, op, byteAt(tape, at + 1))) {
                return at + 1;
            }
            return at + size > tapeLength ? tapeLength : NONE;
        }

        private int tableFault(Method into, int place) {
            int at = HEAD_BYTES + place;
            if (place + 1 >= into.length) {
                return at;
            }
            if (at + 1 >= tapeLength) {
                return tapeLength;
            }
            int n = byteAt(tape, at + 1);
            if (n < 1 || n > TABLE_MOST) {
                return at + 1;
            }
            if (place + tableSize(n) > into.length) {
                return at;
            }
            return at + tableSize(n) > tapeLength ? tapeLength : NONE;
        }

        private static boolean operandFits(Method into, int op, int operand) {
            switch (op) {
                case LOAD:
                case STORE:
                case INC:
                    return operand < into.locals;
                case GET:
                case PUT:
                    return operand < FIELDS;
                case CALL:
                    return operand <= into.number;
                default:
                    return true;
            }
        }

        private int tailFault(Method into) {
            int at = HEAD_BYTES + into.length;
            if (at >= tapeLength) {
                return tapeLength;
            }
            int many = byteAt(tape, at);
            if (many > HANDLERS_MOST) {
                return at;
            }
            int end = at + 1 + HANDLER_BYTES * many;
            if (end != tapeLength) {
                return Math.min(end, tapeLength);
            }
            into.handlerCount = many;
            for (int k = 0; k < many; k++) {
                readHandler(into.handlers, k, at + 1 + HANDLER_BYTES * k);
            }
            return NONE;
        }

        private void readHandler(int[] handlers, int k, int at) {
            int i = k * HANDLER_PARTS;
            if (i < 0 || i + 3 >= handlers.length) {
                return;
            }
            handlers[i] = byteAt(tape, at) << 8 | byteAt(tape, at + 1);
            handlers[i + 1] = byteAt(tape, at + 2) << 8 | byteAt(tape, at + 3);
            handlers[i + 2] = byteAt(tape, at + 4) << 8 | byteAt(tape, at + 5);
            handlers[i + 3] = byteAt(tape, at + 6);
        }
    }

    /** Judges the TYPES of a METHOD on all ways. */
    private static final class Judge {
        // A place comes anew at its first state, and for each LOCAL that becomes NO.
        private static final int VISITS_MOST = LENGTH_MOST * (LOCALS_MOST + 1);
        // By OP, from 0 to mark, of those that take and put no other TYPES, but for ROWS.
        private static final int[] INTS_TAKEN = {
            0, 0, 0, 0, 0, 0, 0, 0, 0, 2, 2, 2, 2, 2, 2, 2, 2, 2, 2, 1,
            0, 1, 1, 1, 1, 1, 1, 2, 2, 2, 2, 2, 2, 1,
            0, 1, 1, 0, 1, 2, 0, 1, 1, 1
        };
        private static final int[] INTS_PUT = {
            0, 1, 1, 0, 0, 0, 0, 0, 0, 1, 1, 1, 1, 1, 1, 1, 1, 1, 1, 1,
            0, 0, 0, 0, 0, 0, 0, 0, 0, 0, 0, 0, 0, 0,
            1, 0, 0, 1, 1, 0, 1, 0, 0, 0
        };

        private final int[] waiting = new int[LENGTH_MOST];
        private final boolean[] waits = new boolean[LENGTH_MOST];
        private int waitingCount = 0;
        private int stack = 0;
        private int locals = 0;
        private boolean wrong = false;

        boolean accepts(Method of, Method[] methods) {
            Arrays.fill(of.stacks, NONE);
            Arrays.fill(of.localTypes, 0);
            for (int place = 0; place < LENGTH_MOST; place++) {
                waits[place] = false;
            }
            waitingCount = 0;
            wrong = false;
            comeTo(of, 0, 0, LOCAL_LOW_BITS & ((1 << 2 * of.arguments) - 1));
            for (int visit = 0; visit < VISITS_MOST && waitingCount > 0 && !wrong; visit++) {
                waitingCount--;
                int place = waiting[waitingCount];
                waits[place] = false;
                goFrom(of, place, methods);
            }
            return !wrong;
        }

        private void goFrom(Method of, int place, Method[] methods) {
            stack = of.stacks[place];
            locals = of.localTypes[place];
            for (int k = 0; k < of.handlerCount; k++) {
                if (place >= handlerPart(of.handlers, k, 0) && place < handlerPart(of.handlers, k, 1)) {
                    comeTo(of, handlerPart(of.handlers, k, 2), JUST_AN_INT, locals);
                }
            }
            int op = of.code[place];
            doOp(shortOf(op), byteAt(of.code, place + 1), methods);
            if (goesOn(op)) {
                comeTo(of, place + of.sizes[place], stack, locals);
            }
            int targets = targetCount(of.code, place);
            for (int k = 0; k < targets; k++) {
                comeTo(of, targetAt(of.code, place, k), stack, locals);
            }
        }

        private void comeTo(Method of, int place, int withStack, int withLocals) {
            if (!of.beginsAt(place)) {
                wrong = true;
                return;
            }
            if (of.stacks[place] == NONE) {
                of.stacks[place] = withStack;
                of.localTypes[place] = withLocals;
                putInLine(place);
                return;
            }
            if (of.stacks[place] != withStack) {
                wrong = true;
                return;
            }
            int unlike = of.localTypes[place] ^ withLocals;
            int low = (unlike | unlike >> 1) & LOCAL_LOW_BITS;
            int joined = of.localTypes[place] & ~(low | low << 1);
            if (joined != of.localTypes[place]) {
                of.localTypes[place] = joined;
                putInLine(place);
            }
        }

        private void putInLine(int place) {
            if (!waits[place] && waitingCount >= 0 && waitingCount < LENGTH_MOST) {
                waits[place] = true;
                waiting[waitingCount] = place;
                waitingCount++;
            }
        }

        private void doOp(int op, int operand, Method[] methods) {
            switch (op) {
                case LOAD:
                    loadType(operand);
                    break;
                case STORE:
                    setLocalType(operand, takeAny());
                    break;
                case INC:
                    wrong |= localType(operand) != INT_TYPE;
                    break;
                case DUP:
                case POP:
                case SWAP:
                    shiftAny(op);
                    break;
                case CALL:
                    takeInts(operand < methods.length ? methods[operand].arguments : 0);
                    put(INT_TYPE);
                    break;
                default:
                    doTyped(op);
                    break;
            }
        }

        private void shiftAny(int op) {
            int top = takeAny();
            if (op == DUP) {
                put(top);
                put(top);
            } else if (op == SWAP) {
                int below = takeAny();
                put(top);
                put(below);
            }
        }

        /** An OP that always takes the same TYPES and puts the same. */
        private void doTyped(int op) {
            if (op < 0 || op >= INTS_TAKEN.length || op >= INTS_PUT.length) {
                return;
            }
            for (int i = 0; i < INTS_TAKEN[op]; i++) {
                wrong |= takeAny() != INT_TYPE;
            }
            if (op == SIZE || op == TAKE || op == LAY) {
                wrong |= takeAny() != ROW_TYPE;
            }
            if (op == ROW) {
                put(ROW_TYPE);
            } else if (INTS_PUT[op] > 0) {
                put(INT_TYPE);
            }
        }

        private void loadType(int n) {
            int type = localType(n);
            wrong |= type == NO_TYPE;
            put(type);
        }

        private int localType(int n) {
            return n >= 0 && n < LOCALS_MOST ? locals >> 2 * n & 3 : NO_TYPE;
        }

        private void setLocalType(int n, int type) {
            if (n >= 0 && n < LOCALS_MOST) {
                locals = locals & ~(3 << 2 * n) | type << 2 * n;
            }
        }

        private void put(int type) {
            int height = stack >> HEIGHT_SHIFT;
            if (height >= STACK_MOST) {
                wrong = true;
                return;
            }
            stack = (height + 1) << HEIGHT_SHIFT | stack & STACK_TYPES | type << 2 * height;
        }

        private int takeAny() {
            int height = stack >> HEIGHT_SHIFT;
            if (height < 1) {
                wrong = true;
                return NO_TYPE;
            }
            int type = stack >> 2 * (height - 1) & 3;
            int below = stack & ((1 << 2 * (height - 1)) - 1);
            stack = (height - 1) << HEIGHT_SHIFT | below;
            return type;
        }

        private void takeInts(int many) {
            for (int i = 0; i < many; i++) {
                wrong |= takeAny() != INT_TYPE;
            }
        }
    }

    /** Lays the WOVEN code of a METHOD, and writes it once it is known to have room. */
    private static final class Weaver {
        // Each round but the last makes at least one jump long, and there are fewer of them.
        private static final int ROUNDS_MOST = 500;
        private static final int SHORT_LEAST = -128;
        private static final int SHORT_MOST = 127;

        // By places in the CODE: bytes of a GROUP ahead of its INSTRUCTION and behind it, PROBES there.
        private final int[] ahead = new int[LENGTH_MOST];
        private final int[] behind = new int[LENGTH_MOST];
        private final int[] sides = new int[LENGTH_MOST];
        private final int[] caught = new int[LENGTH_MOST];
        // Where GROUPS begin; that of LENGTH is the end of the last.
        private final int[] groups = new int[LENGTH_MOST + 1];
        private final int[] selves = new int[LENGTH_MOST];
        private final int[] sidePads = new int[LENGTH_MOST];
        private final int[] caughtPads = new int[HANDLERS_MOST];
        private final boolean[] jumpGrew = new boolean[LENGTH_MOST];
        private final boolean[] sidePadGrew = new boolean[LENGTH_MOST];
        private final boolean[] caughtPadGrew = new boolean[HANDLERS_MOST];
        private int enters = 0;
        private int leaves = 0;
        private int padCount = 0;
        private int leftPad = 0;
        private int total = 0;
        private int at = 0;

        /** How many bytes the WOVEN code has, or FULL. */
        int weaveIn(Method of, Probes probes) {
            startAnew();
            countProbes(of, probes);
            boolean grew = true;
            for (int round = 0; round < ROUNDS_MOST && grew; round++) {
                layAll(of);
                grew = growJumps(of);
            }
            if (total > WOVEN_MOST) {
                return FULL;
            }
            writeAll(of, probes);
            return total;
        }

        private void startAnew() {
            Arrays.fill(ahead, 0);
            Arrays.fill(behind, 0);
            Arrays.fill(sides, 0);
            Arrays.fill(caught, 0);
            for (int place = 0; place < LENGTH_MOST; place++) {
                jumpGrew[place] = false;
                sidePadGrew[place] = false;
            }
            for (int k = 0; k < HANDLERS_MOST; k++) {
                caughtPadGrew[k] = false;
            }
            enters = 0;
            leaves = 0;
        }

        private void countProbes(Method of, Probes probes) {
            for (int p = 0; p < probes.count && p < PROBES_MOST; p++) {
                int place = probes.places[p];
                if (probes.owners[p] == of.number && of.beginsAt(place)) {
                    countProbe(probes.sorts[p], place);
                }
            }
            for (int place = 0; place < of.length; place++) {
                if (of.beginsAt(place) && of.code[place] == GIVE) {
                    ahead[place] += 2 * leaves;
                }
            }
        }

        private void countProbe(int sort, int place) {
            switch (sort) {
                case PASS_SORT:
                case FAULT_SORT:
                    ahead[place] += 2;
                    break;
                case SIDE_SORT:
                    behind[place] += 3;
                    sides[place]++;
                    break;
                case ENTER_SORT:
                    enters++;
                    break;
                case LEAVE_SORT:
                    leaves++;
                    break;
                case STORE_SORT:
                    ahead[place] += 2;
                    behind[place] += 2;
                    break;
                case CAUGHT_SORT:
                    caught[place]++;
                    break;
                default:
                    behind[place] += 2;
                    break;
            }
        }

        private void layAll(Method of) {
            int next = 2 * enters;
            for (int place = 0; place < of.length; place++) {
                if (of.beginsAt(place)) {
                    groups[place] = next;
                    selves[place] = next + ahead[place];
                    next = selves[place] + of.sizes[place] + (jumpGrew[place] ? 1 : 0) + behind[place];
                }
            }
            groups[of.length] = next;
            padCount = 0;
            for (int place = 0; place < of.length; place++) {
                if (sides[place] > 0) {
                    sidePads[place] = next;
                    next += 3 * sides[place] + (sidePadGrew[place] ? 3 : 2);
                    padCount++;
                }
            }
            for (int k = 0; k < of.handlerCount; k++) {
                int many = caughtAt(of, k);
                if (many > 0) {
                    caughtPads[k] = next;
                    next += 2 * many + (caughtPadGrew[k] ? 3 : 2);
                    padCount++;
                }
            }
            leftPad = next;
            if (leaves > 0) {
                next += 2 * leaves + 1;
                padCount++;
            }
            total = next;
        }

        private int caughtAt(Method of, int k) {
            int target = handlerPart(of.handlers, k, 2);
            return of.beginsAt(target) ? caught[target] : 0;
        }

        private int groupAt(int place) {
            return place >= 0 && place <= LENGTH_MOST ? groups[place] : 0;
        }

        private static boolean reaches(int from, int to) {
            return to - from >= SHORT_LEAST && to - from <= SHORT_MOST;
        }

        /** Where target k of the jump at a place lies in the WOVEN code. */
        private int leadsTo(Method of, int place, int k) {
            return sides[place] > 0 ? sidePads[place] : groupAt(targetAt(of.code, place, k));
        }

        private boolean growJumps(Method of) {
            boolean grew = false;
            for (int place = 0; place < of.length; place++) {
                if (of.beginsAt(place) && isShortJump(of.code[place]) && !jumpGrew[place]
                        && !reaches(selves[place], leadsTo(of, place, 0))) {
                    jumpGrew[place] = true;
                    grew = true;
                }
                if (sides[place] > 0 && !sidePadGrew[place] && !reaches(
                        sidePads[place] + 3 * sides[place], groupAt(targetAt(of.code, place, 0)))) {
                    sidePadGrew[place] = true;
                    grew = true;
                }
            }
            return growCaughtPads(of) || grew;
        }

        private boolean growCaughtPads(Method of) {
            boolean grew = false;
            for (int k = 0; k < of.handlerCount; k++) {
                int many = caughtAt(of, k);
                int target = groupAt(handlerPart(of.handlers, k, 2));
                if (many > 0 && !caughtPadGrew[k] && !reaches(caughtPads[k] + 2 * many, target)) {
                    caughtPadGrew[k] = true;
                    grew = true;
                }
            }
            return grew;
        }

        private void writeAll(Method of, Probes probes) {
            Woven into = of.woven;
            into.grown = 0;
            at = 0;
            writeProbes(of, probes, ENTER_SORT, 0, NONE);
            for (int place = 0; place < of.length; place++) {
                into.busy[place] = of.beginsAt(place) && ahead[place] + behind[place] > 0;
                if (of.beginsAt(place)) {
                    writeAhead(of, probes, place);
                    writeInstruction(of, place);
                    writeBehind(of, probes, place);
                    into.selves[place] = selves[place];
                    into.grown += jumpGrew[place] ? 1 : 0;
                }
            }
            writeSidePads(of, probes);
            writeCaughtPads(of, probes);
            writeLeftPad(of, probes);
            writeHandlers(of);
            into.length = total;
            into.pads = padCount;
            into.probeCount = probes.count;
            into.there = true;
        }

        private void writeAhead(Method of, Probes probes, int place) {
            if (ahead[place] == 0) {
                return;
            }
            writeProbes(of, probes, PASS_SORT, place, place);
            if (of.code[place] == GIVE) {
                writeProbes(of, probes, LEAVE_SORT, 0, place);
            }
            writeProbes(of, probes, STORE_SORT, place, place);
        }

        /** Writes those that come by one pass over the numbers: PASS with FAULT, or one other SORT. */
        private void writeProbes(Method of, Probes probes, int sort, int place, int home) {
            for (int p = 0; p < probes.count; p++) {
                int itsSort = probes.sortOf(p);
                boolean meant = itsSort == sort || sort == PASS_SORT && itsSort == FAULT_SORT;
                if (meant && probes.isAt(p, of.number, place)) {
                    writeByte(of.woven, aheadOp(itsSort), home);
                    writeByte(of.woven, p, home);
                }
            }
        }

        private static int aheadOp(int sort) {
            switch (sort) {
                case PASS_SORT:
                    return W_PASS;
                case FAULT_SORT:
                    return W_FAULT;
                case ENTER_SORT:
                    return W_ENTER;
                case LEAVE_SORT:
                    return W_LEAVE;
                case STORE_SORT:
                    return W_OLD;
                default:
                    return W_CAUGHT;
            }
        }

        private void writeInstruction(Method of, int place) {
            int op = of.code[place];
            if (isShortJump(op) || isLongJump(op)) {
                int newOp = jumpGrew[place] ? op + LONG_MORE : op;
                writeJump(of.woven, newOp, leadsTo(of, place, 0), place);
            } else if (op == TABLE) {
                int start = at;
                writeByte(of.woven, op, place);
                writeByte(of.woven, byteAt(of.code, place + 1), place);
                int targets = targetCount(of.code, place);
                for (int k = 0; k < targets; k++) {
                    writePair(of.woven, leadsTo(of, place, k) - start, place);
                }
            } else {
                for (int i = 0; i < of.sizes[place]; i++) {
                    writeByte(of.woven, byteAt(of.code, place + i), place);
                }
            }
        }

        private void writeBehind(Method of, Probes probes, int place) {
            if (behind[place] == 0) {
                return;
            }
            for (int p = 0; p < probes.count; p++) {
                if (!probes.isAt(p, of.number, place)) {
                    continue;
                }
                int sort = probes.sortOf(p);
                if (sort == SIDE_SORT) {
                    writeSide(of.woven, p, 0, place);
                } else if (sort == STORE_SORT || sort == REPLACE_SORT) {
                    writeByte(of.woven, sort == STORE_SORT ? W_NEW : W_REPLACE, place);
                    writeByte(of.woven, p, place);
                }
            }
        }

        private void writeSidePads(Method of, Probes probes) {
            for (int place = 0; place < of.length; place++) {
                if (sides[place] == 0) {
                    continue;
                }
                for (int p = 0; p < probes.count; p++) {
                    if (probes.sortOf(p) == SIDE_SORT && probes.isAt(p, of.number, place)) {
                        writeSide(of.woven, p, 1, NONE);
                    }
                }
                int target = groupAt(targetAt(of.code, place, 0));
                writeJump(of.woven, sidePadGrew[place] ? LONG_FIRST : JUMP, target, NONE);
            }
        }

        private void writeCaughtPads(Method of, Probes probes) {
            for (int k = 0; k < of.handlerCount; k++) {
                if (caughtAt(of, k) > 0) {
                    int target = handlerPart(of.handlers, k, 2);
                    writeProbes(of, probes, CAUGHT_SORT, target, NONE);
                    writeJump(of.woven, caughtPadGrew[k] ? LONG_FIRST : JUMP, groupAt(target), NONE);
                }
            }
        }

        private void writeLeftPad(Method of, Probes probes) {
            if (leaves == 0) {
                return;
            }
            for (int p = 0; p < probes.count; p++) {
                if (probes.sortOf(p) == LEAVE_SORT && probes.isAt(p, of.number, 0)) {
                    writeByte(of.woven, W_LEFT, NONE);
                    writeByte(of.woven, p, NONE);
                }
            }
            writeByte(of.woven, W_AGAIN, NONE);
        }

        private void writeHandlers(Method of) {
            int[] into = of.woven.handlers;
            for (int k = 0; k < of.handlerCount; k++) {
                int target = handlerPart(of.handlers, k, 2);
                writeHandler(into, k, groupAt(handlerPart(of.handlers, k, 0)),
                        groupAt(handlerPart(of.handlers, k, 1)),
                        caughtAt(of, k) > 0 ? caughtPads[k] : groupAt(target),
                        handlerPart(of.handlers, k, 3));
            }
            of.woven.handlerCount = of.handlerCount;
            if (leaves > 0) {
                writeHandler(into, of.handlerCount, groups[0], groupAt(of.length), leftPad, 0);
                of.woven.handlerCount++;
            }
        }

        private static void writeHandler(int[] into, int k, int from, int to, int target, int kind) {
            int i = k * HANDLER_PARTS;
            if (i < 0 || i + 3 >= into.length) {
                return;
            }
            into[i] = from;
            into[i + 1] = to;
            into[i + 2] = target;
            into[i + 3] = kind;
        }

        private void writeSide(Woven into, int p, int side, int home) {
            writeByte(into, W_SIDE, home);
            writeByte(into, p, home);
            writeByte(into, side, home);
        }

        private void writeJump(Woven into, int op, int target, int home) {
            int distance = target - at;
            writeByte(into, op, home);
            if (isLongJump(op)) {
                writePair(into, distance, home);
            } else {
                writeByte(into, distance, home);
            }
        }

        private void writePair(Woven into, int value, int home) {
            writeByte(into, value >> 8, home);
            writeByte(into, value, home);
        }

        private void writeByte(Woven into, int value, int home) {
            if (at >= 0 && at < WOVEN_MOST) {
                into.code[at] = value & 255;
                into.homes[at] = home;
                at++;
            }
        }
    }

    /** What is told of the latest RUN in a MANNER. */
    private static final class Tale {
        final int[] fields = new int[FIELDS];
        private final int[] marks = new int[MARKS_MOST];
        private final int[] recordProbes = new int[RECORDS_MOST];
        private final int[] recordInts = new int[RECORDS_MOST];
        int ending = NONE;
        int answer = 0;
        int steps = 0;
        int rows = 0;
        int mostFrames = 0;
        int thrownPlace = NONE;
        int thrownMethod = NONE;
        private int markCount = 0;
        private int recordCount = 0;

        void startAnew() {
            Arrays.fill(fields, 0);
            ending = GOING;
            answer = 0;
            steps = 0;
            rows = 0;
            mostFrames = 0;
            thrownPlace = NONE;
            thrownMethod = NONE;
            markCount = 0;
            recordCount = 0;
        }

        void addMark(int value) {
            if (markCount >= 0 && markCount < MARKS_MOST) {
                marks[markCount] = value;
                markCount++;
            }
        }

        void addRecord(int p, int value) {
            if (recordCount >= 0 && recordCount < RECORDS_MOST) {
                recordProbes[recordCount] = p;
                recordInts[recordCount] = value;
            }
            recordCount++;
        }

        int recordsKept() {
            return Math.min(recordCount, RECORDS_MOST);
        }

        int markAt(int i) {
            return i >= 0 && i < markCount && i < MARKS_MOST ? marks[i] : 0;
        }

        int recordPart(int i, int what) {
            if (i < 0 || i >= recordsKept()) {
                return 0;
            }
            if (what == 0) {
                return recordProbes[i];
            }
            return what == 1 ? recordInts[i] : 0;
        }

        int recordsOf(int p) {
            int many = 0;
            for (int i = 0; i < recordsKept(); i++) {
                if (recordProbes[i] == p) {
                    many++;
                }
            }
            return many;
        }

        int tell(int what) {
            switch (what) {
                case 0:
                    return ending;
                case 1:
                    return answer;
                case 2:
                    return steps;
                case 3:
                    return markCount;
                case 4:
                    return recordCount;
                case 5:
                    return rows;
                case 6:
                    return thrownPlace;
                case 7:
                    return thrownMethod;
                case 8:
                    return mostFrames;
                default:
                    return BAD;
            }
        }
    }

    /** A METHOD that is at work: its place is one of the code that it runs by, plain or woven. */
    private static final class Frame {
        final int[] locals = new int[LOCALS_MOST];
        private final int[] stack = new int[STACK_MOST];
        private int height = 0;
        Method method;
        boolean byWoven = false;
        int place = 0;

        Frame(Method first) {
            method = first;
        }

        void begin(Method its, boolean woven) {
            method = its;
            byWoven = woven;
            place = 0;
            height = 0;
            Arrays.fill(locals, 0);
        }

        int[] code() {
            return byWoven ? method.woven.code : method.code;
        }

        int operand() {
            return byteAt(code(), place + 1);
        }

        /** The place in the CODE of the INSTRUCTION that is at work; NONE in what is no GROUP. */
        int homePlace() {
            return byWoven ? method.woven.homeOf(place) : place;
        }

        void push(int value) {
            if (height >= 0 && height < STACK_MOST) {
                stack[height] = value;
                height++;
            }
        }

        int pop() {
            if (height < 1 || height > STACK_MOST) {
                return 0;
            }
            height--;
            return stack[height];
        }

        /** The cell so many below the top. */
        int peek(int below) {
            int i = height - 1 - below;
            return i >= 0 && i < STACK_MOST ? stack[i] : 0;
        }

        int local(int n) {
            return n >= 0 && n < LOCALS_MOST ? locals[n] : 0;
        }

        void setLocal(int n, int value) {
            if (n >= 0 && n < LOCALS_MOST) {
                locals[n] = value;
            }
        }

        /** Goes to the HANDLER of the KIND, if there is one. */
        boolean catches(int kind) {
            int many = byWoven ? method.woven.handlerCount : method.handlerCount;
            int[] handlers = byWoven ? method.woven.handlers : method.handlers;
            for (int k = 0; k < many; k++) {
                int its = handlerPart(handlers, k, 3);
                if (place >= handlerPart(handlers, k, 0) && place < handlerPart(handlers, k, 1)
                        && (its == 0 || its == kind)) {
                    height = 0;
                    push(kind);
                    place = handlerPart(handlers, k, 2);
                    return true;
                }
            }
            return false;
        }
    }

    /** Runs METHODS in all MANNERS. */
    private static final class Machine {
        // Far above the WOVEN INSTRUCTIONS that 3000 STEPS with 24 PROBES can take.
        private static final int TURNS_MOST = 1000000;
        private static final int NO_CELL = -1;

        private final Method[] methods;
        private final Probes probes;
        private final Frame[] frames = new Frame[FRAMES_MOST];
        // FIELDS, then the INTS of all ROWS.
        private final int[] memory = new int[FIELDS + ROWS_MOST * ROW_INTS_MOST];
        private final int[] rowSizes = new int[ROWS_MOST];
        private final int[] passings = new int[PROBES_MOST];
        private Tale tale;
        private int manner = 0;
        private int limit = 0;
        private int depth = 0;
        // A KIND that is thrown and not yet handled; 0: none.
        private int thrown = 0;
        private int thrownPlace = NONE;
        private int thrownMethod = NONE;
        // The cell that a STORE is about to change, and what was there.
        private int keptCell = NO_CELL;
        private int keptInt = 0;
        private boolean jumped = false;
        // The place in the CODE of the INSTRUCTION whose turn it is; NONE in what is no GROUP.
        private int home = NONE;

        Machine(Method[] allMethods, Probes allProbes, Tale first) {
            methods = allMethods;
            probes = allProbes;
            tale = first;
            for (int i = 0; i < FRAMES_MOST; i++) {
                frames[i] = new Frame(allMethods[0]);
            }
        }

        void perform(Tale into, int itsManner, Method first, int a, int b, int itsLimit) {
            tale = into;
            tale.startAnew();
            manner = itsManner;
            limit = itsLimit;
            depth = 0;
            thrown = 0;
            Arrays.fill(memory, 0, FIELDS, 0);
            Arrays.fill(passings, 0);
            Frame frame = openFrame(first);
            frame.setLocal(0, first.arguments > 0 ? a : 0);
            frame.setLocal(1, first.arguments > 1 ? b : 0);
            noteEnter(frame);
            for (int turn = 0; turn < TURNS_MOST && tale.ending == GOING && depth > 0; turn++) {
                takeTurn(frames[depth - 1]);
            }
            System.arraycopy(memory, 0, tale.fields, 0, FIELDS);
        }

        /** The caller has looked that there is room for one more. */
        private Frame openFrame(Method its) {
            int i = Math.min(Math.max(depth, 0), FRAMES_MOST - 1);
            Frame frame = frames[i];
            frame.begin(its, manner == WOVEN_MANNER && its.woven.there);
            depth = i + 1;
            tale.mostFrames = Math.max(tale.mostFrames, depth);
            return frame;
        }

        private void takeTurn(Frame frame) {
            int op = byteAt(frame.code(), frame.place);
            home = frame.homePlace();
            if (frame.byWoven && op >= W_PASS && op <= W_AGAIN) {
                doWovenOp(frame, op);
            } else if (home == NONE) {
                // The jump at the end of a PAD is none of the CODE's, so it is no STEP.
                frame.place = targetAt(frame.code(), frame.place, 0);
            } else if (mayBegin(frame, op)) {
                tale.steps++;
                if (op == CALL) {
                    doCall(frame);
                } else if (op == GIVE) {
                    doGive(frame);
                } else {
                    doInstruction(frame, shortOf(op));
                }
            }
            if (thrown != 0) {
                unwind();
            }
        }

        /** Passes the PROBES ahead, and tells whether a STEP is due behind them. */
        private boolean mayBegin(Frame frame, int op) {
            if (isWatchedHere(frame)) {
                passAhead(frame, op);
            }
            if (thrown != 0) {
                return false;
            }
            if (tale.steps >= limit) {
                tale.ending = AT_LIMIT;
                return false;
            }
            return true;
        }

        /** One that stays in its FRAME, or throws. */
        private void doInstruction(Frame frame, int op) {
            int next = frame.place + sizeAt(frame.code(), frame.place);
            if (op <= SWAP) {
                doMove(frame, op);
            } else if (op <= NEG) {
                doSum(frame, op);
            } else if (op <= TABLE) {
                next = whereJumped(frame, op, next);
            } else if (op == THROW) {
                int kind = frame.pop();
                throwAt(frame, kind >= 1 && kind <= OWN_KIND_MOST ? kind : OTHER_KIND);
            } else {
                doMemory(frame, op);
            }
            if (thrown == 0) {
                passBehind(frame);
                frame.place = next;
            }
        }

        private void doMove(Frame frame, int op) {
            int n = frame.operand();
            switch (op) {
                case PUSH_BYTE:
                    frame.push(signedByteAt(frame.code(), frame.place + 1));
                    break;
                case PUSH_WORD:
                    frame.push(wordAt(frame.code(), frame.place + 1));
                    break;
                case LOAD:
                    frame.push(frame.local(n));
                    break;
                case STORE:
                    frame.setLocal(n, frame.pop());
                    break;
                case INC:
                    frame.setLocal(n, frame.local(n) + signedByteAt(frame.code(), frame.place + 2));
                    break;
                case DUP:
                    frame.push(frame.peek(0));
                    break;
                case POP:
                    frame.pop();
                    break;
                case SWAP:
                    int top = frame.pop();
                    int below = frame.pop();
                    frame.push(top);
                    frame.push(below);
                    break;
                default:
                    break;
            }
        }

        private void doSum(Frame frame, int op) {
            int j = frame.pop();
            if (op == NEG) {
                frame.push(-j);
                return;
            }
            int i = frame.pop();
            if (op != DIV && op != REM) {
                frame.push(sum(op, i, j));
            } else if (j == 0) {
                throwAt(frame, DIVIDED_BY_ZERO);
            } else {
                frame.push(op == DIV ? i / j : i % j);
            }
        }

        private static int sum(int op, int i, int j) {
            switch (op) {
                case ADD:
                    return i + j;
                case SUB:
                    return i - j;
                case MUL:
                    return i * j;
                case AND:
                    return i & j;
                case OR:
                    return i | j;
                case XOR:
                    return i ^ j;
                case SHL:
                    return i << (j & 31);
                case SHR:
                    return i >> (j & 31);
                default:
                    return 0;
            }
        }

        private int whereJumped(Frame frame, int op, int next) {
            int[] code = frame.code();
            if (op == TABLE) {
                int i = frame.pop();
                boolean within = i >= 0 && i < frame.operand();
                return targetAt(code, frame.place, within ? i + 1 : 0);
            }
            jumped = op == JUMP || choosesJump(frame, op);
            return jumped ? targetAt(code, frame.place, 0) : next;
        }

        private static boolean choosesJump(Frame frame, int op) {
            boolean byTwo = op >= JUMP_BY_TWO_FIRST;
            int j = byTwo ? frame.pop() : 0;
            int i = frame.pop();
            switch (byTwo ? op - JUMP_BY_TWO_FIRST : op - JUMP_IF_FIRST) {
                case 0:
                    return i == j;
                case 1:
                    return i != j;
                case 2:
                    return i < j;
                case 3:
                    return i >= j;
                case 4:
                    return i > j;
                default:
                    return i <= j;
            }
        }

        private void doMemory(Frame frame, int op) {
            switch (op) {
                case GET:
                    frame.push(cellInt(fieldCell(frame.operand())));
                    break;
                case PUT:
                    setCell(fieldCell(frame.operand()), frame.pop());
                    break;
                case ROW:
                    makeRow(frame);
                    break;
                case SIZE:
                    frame.push(sizeOfRow(frame.pop()));
                    break;
                case TAKE:
                    takeFromRow(frame);
                    break;
                case LAY:
                    layInRow(frame);
                    break;
                case MARK:
                    tale.addMark(frame.pop());
                    break;
                default:
                    break;
            }
        }

        private void makeRow(Frame frame) {
            int many = frame.pop();
            int row = tale.rows;
            if (many < 0 || many > ROW_INTS_MOST) {
                throwAt(frame, ROW_LENGTH);
            } else if (row < 0 || row >= ROWS_MOST) {
                throwAt(frame, TOO_MANY_ROWS);
            } else {
                int start = FIELDS + row * ROW_INTS_MOST;
                Arrays.fill(memory, start, start + many, 0);
                rowSizes[row] = many;
                tale.rows++;
                frame.push(row);
            }
        }

        private void takeFromRow(Frame frame) {
            int i = frame.pop();
            int cell = rowCell(frame.pop(), i);
            if (cell == NO_CELL) {
                throwAt(frame, NO_SUCH_INT);
            } else {
                frame.push(cellInt(cell));
            }
        }

        private void layInRow(Frame frame) {
            int value = frame.pop();
            int i = frame.pop();
            int cell = rowCell(frame.pop(), i);
            if (cell == NO_CELL) {
                throwAt(frame, NO_SUCH_INT);
            } else {
                setCell(cell, value);
            }
        }

        private static int fieldCell(int f) {
            return f >= 0 && f < FIELDS ? f : NO_CELL;
        }

        private int sizeOfRow(int row) {
            return row >= 0 && row < tale.rows && row < ROWS_MOST ? rowSizes[row] : 0;
        }

        private int rowCell(int row, int i) {
            if (row < 0 || row >= tale.rows || row >= ROWS_MOST || i < 0 || i >= rowSizes[row]) {
                return NO_CELL;
            }
            return FIELDS + row * ROW_INTS_MOST + i;
        }

        private int cellInt(int cell) {
            return cell >= 0 && cell < memory.length ? memory[cell] : 0;
        }

        private void setCell(int cell, int value) {
            if (cell >= 0 && cell < memory.length) {
                memory[cell] = value;
            }
        }

        private void doCall(Frame frame) {
            int m = frame.operand();
            if (depth >= FRAMES_MOST || m >= methods.length) {
                throwAt(frame, TOO_MANY_FRAMES);
                return;
            }
            Frame callee = openFrame(methods[m]);
            for (int n = methods[m].arguments - 1; n >= 0; n--) {
                callee.setLocal(n, frame.pop());
            }
            noteEnter(callee);
        }

        private void doGive(Frame frame) {
            int value = frame.pop();
            depth--;
            if (depth < 1 || depth > FRAMES_MOST) {
                tale.ending = ANSWERED;
                tale.answer = value;
                return;
            }
            Frame caller = frames[depth - 1];
            caller.push(value);
            passBehind(caller);
            caller.place += fixedSize(CALL);
        }

        private void throwAt(Frame frame, int kind) {
            thrown = kind;
            thrownPlace = home;
            thrownMethod = frame.method.number;
        }

        /** Ends FRAMES up to the one that has a HANDLER of what is thrown. */
        private void unwind() {
            int kind = thrown;
            thrown = 0;
            for (; depth > 0 && depth <= FRAMES_MOST; depth--) {
                Frame frame = frames[depth - 1];
                if (frame.catches(kind)) {
                    noteAll(frame, CAUGHT_SORT, frame.place, kind);
                    return;
                }
                noteAll(frame, LEAVE_SORT, 0, -kind);
            }
            tale.ending = THROWN;
            tale.answer = kind;
            tale.thrownPlace = thrownPlace;
            tale.thrownMethod = thrownMethod;
        }

        private boolean isWatched(Frame frame) {
            return manner == WATCHED_MANNER && frame.method.woven.there;
        }

        private boolean isWatchedHere(Frame frame) {
            return isWatched(frame) && frame.method.woven.isBusyAt(frame.place);
        }

        /** RECORDS of one SORT's PROBES at a place, where the FRAME is watched. */
        private void noteAll(Frame frame, int sort, int place, int value) {
            if (!isWatched(frame)) {
                return;
            }
            for (int p = 0; p < frame.method.woven.probeCount; p++) {
                if (probes.sortOf(p) == sort && probes.isAt(p, frame.method.number, place)) {
                    tale.addRecord(p, value);
                }
            }
        }

        private void noteEnter(Frame frame) {
            if (!isWatched(frame)) {
                return;
            }
            for (int p = 0; p < frame.method.woven.probeCount; p++) {
                if (probes.sortOf(p) == ENTER_SORT && probes.isAt(p, frame.method.number, 0)) {
                    noteArguments(frame, p);
                }
            }
        }

        private void noteArguments(Frame frame, int p) {
            for (int n = 0; n < frame.method.arguments && n < LOCALS_MOST; n++) {
                tale.addRecord(p, frame.locals[n]);
            }
            if (frame.method.arguments == 0) {
                tale.addRecord(p, 0);
            }
        }

        private void passAhead(Frame frame, int op) {
            for (int p = 0; p < frame.method.woven.probeCount && thrown == 0; p++) {
                if (probes.isAt(p, frame.method.number, frame.place)) {
                    if (probes.sortOf(p) == PASS_SORT) {
                        tale.addRecord(p, 0);
                    } else if (probes.sortOf(p) == FAULT_SORT) {
                        passFault(frame, p);
                    }
                }
            }
            if (thrown != 0) {
                return;
            }
            if (op == GIVE) {
                noteAll(frame, LEAVE_SORT, 0, frame.peek(0));
            } else if (op == PUT || op == LAY) {
                keepOld(frame);
            }
        }

        private void passBehind(Frame frame) {
            if (!isWatchedHere(frame)) {
                return;
            }
            for (int p = 0; p < frame.method.woven.probeCount; p++) {
                if (probes.isAt(p, frame.method.number, frame.place)) {
                    switch (probes.sortOf(p)) {
                        case SIDE_SORT:
                            tale.addRecord(p, jumped ? 1 : 0);
                            break;
                        case STORE_SORT:
                            noteStore(p);
                            break;
                        case REPLACE_SORT:
                            replaceTop(frame, p);
                            break;
                        default:
                            break;
                    }
                }
            }
        }

        private void passFault(Frame frame, int p) {
            if (p < 0 || p >= PROBES_MOST) {
                return;
            }
            passings[p]++;
            if (passings[p] == probes.xOf(p)) {
                throwAt(frame, probes.yOf(p));
            }
        }

        private void keepOld(Frame frame) {
            int[] code = frame.method.code;
            keptCell = byteAt(code, home) == PUT
                    ? fieldCell(byteAt(code, home + 1))
                    : rowCell(frame.peek(2), frame.peek(1));
            keptInt = cellInt(keptCell);
        }

        private void noteStore(int p) {
            tale.addRecord(p, keptInt);
            tale.addRecord(p, cellInt(keptCell));
        }

        private void replaceTop(Frame frame, int p) {
            tale.addRecord(p, frame.pop());
            frame.push(probes.xOf(p));
        }

        private void doWovenOp(Frame frame, int op) {
            int p = frame.operand();
            switch (op) {
                case W_PASS:
                    tale.addRecord(p, 0);
                    break;
                case W_SIDE:
                    tale.addRecord(p, byteAt(frame.code(), frame.place + 2));
                    break;
                case W_ENTER:
                    noteArguments(frame, p);
                    break;
                case W_LEAVE:
                case W_CAUGHT:
                    tale.addRecord(p, frame.peek(0));
                    break;
                case W_LEFT:
                    tale.addRecord(p, -frame.peek(0));
                    break;
                case W_OLD:
                    keepOld(frame);
                    break;
                case W_NEW:
                    noteStore(p);
                    break;
                case W_FAULT:
                    passFault(frame, p);
                    break;
                case W_REPLACE:
                    replaceTop(frame, p);
                    break;
                default:
                    // AGAIN: thrown on from the call, told of where it was thrown first.
                    thrown = frame.pop();
                    depth--;
                    break;
            }
            if (thrown == 0) {
                frame.place += op == W_SIDE ? 3 : 2;
            }
        }
    }
}
