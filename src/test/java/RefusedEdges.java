import java.util.ArrayList;
import java.util.List;
import java.util.function.ToIntFunction;

/** What refused calls leave as it was: all that can be asked, of an object with the call and one without. */
final class RefusedEdges {
    private static final int MIN = Integer.MIN_VALUE;
    private static final int MAX = Integer.MAX_VALUE;
    /** So many questions that an object with them has not been called 512 times. */
    private static final int QUESTIONS = 300;

    private record Call(String name, ToIntFunction<ProbeLoom> made, int answer) {
    }

    private RefusedEdges() {
    }

    static void all(Edges edges) {
        edges.test("A refused call changes nothing, but that the TAPE is empty behind make().", RefusedEdges::refused);
    }

    private static void refused() {
        List<ToIntFunction<ProbeLoom>> questions = questions();
        for (Call call : calls()) {
            dueSame(call, questions);
        }
        tapeStays();
        emptyBehindMake();
        refusedMethods();
    }

    /** Six METHODS, 24 PROBES, 600 bytes, RUNS in all MANNERS: there is no room for anything. */
    private static ProbeLoom full() {
        ProbeLoom x = new ProbeLoom();
        Kit.make(x, 1, 1, Kit.bytes(3, 0, 41));
        Kit.make(x, 1, 1, Kit.bytes(3, 0, 40, 0, 42, 6, 43, 42), new int[] {2, 4, 5, 9});
        Kit.make(x, 2, 3, Kit.bytes(1, 3, 36, 4, 2, 3, 2, 3, 0, 3, 1, 39, 3, 1, 35, 6, 3, 0, 43, 3, 0, 40, 1, 42));
        Kit.make(x, 0, 0, Kit.bytes(20, 0));
        Kit.make(x, 4, 12, Kit.bytes(3, 3, 42));
        Kit.make(x, 0, 0, Kit.times(130, 1, 5, 42));
        x.probe(3, 5, 0, 0, 0);
        int[][] probes = {{2, 0, 0}, {3, 0, 0}, {0, 1, 0}, {5, 1, 5}, {3, 1, 0}, {4, 2, 11}, {4, 2, 14}, {2, 2, 0}};
        for (int[] p : probes) {
            x.probe(p[0], p[1], p[2], 0, 0);
        }
        for (int m = 0; m < 6; m++) {
            if (m != 4) {
                x.weave(m);
            }
        }
        for (int p = 9; p < 24; p++) {
            x.probe(3, 5, 0, 0, 0);
        }
        x.run(0, 2, 2, 50, 99);
        x.run(1, 2, 1, 51, 99);
        x.run(2, 1, 8, 0, 99);
        x.run(1, 2, 2, 52, 17);
        for (int i = 0; i < 30; i++) {
            x.feed(i, MIN, MAX, -1, 0);
        }
        return x;
    }

    private static List<Call> calls() {
        List<Call> all = new ArrayList<>();
        all.add(new Call("feed FULL", x -> x.feed(1, 2, 3, 4, 5), -3));
        all.add(new Call("cut below 0", x -> x.cut(-1), -2));
        all.add(new Call("cut of too many", x -> x.cut(601), -2));
        all.add(new Call("make FULL", x -> x.make(), -3));
        all.add(new Call("method of none", x -> x.method(6, 0), -2));
        all.add(new Call("method of another what", x -> x.method(0, 10), -2));
        all.add(new Call("octet of none", x -> x.octet(0, true, 1000), -1));
        all.add(new Call("handler of none", x -> x.handler(1, true, 9, 0), -1));
        all.add(new Call("type of none", x -> x.type(0, 1, 0), -1));
        all.add(new Call("moved of none", x -> x.moved(4, 0), -1));
        all.add(new Call("probe FULL", x -> x.probe(0, 0, 0, 0, 0), -3));
        all.add(new Call("probe of no SORT", x -> x.probe(8, 0, 0, 0, 0), -2));
        all.add(new Call("probe of no METHOD", x -> x.probe(0, 6, 0, 0, 0), -2));
        all.add(new Call("probe of no INSTRUCTION", x -> x.probe(0, 0, 1, 0, 0), -2));
        all.add(new Call("FAULT of no x", x -> x.probe(6, 0, 0, 0, 1), -2));
        all.add(new Call("weave of none", x -> x.weave(6), -2));
        all.add(new Call("weave FULL", x -> x.weave(5), -3));
        all.add(new Call("unweave of none", x -> x.unweave(-1), -2));
        all.add(new Call("run in no MANNER", x -> x.run(3, 2, 7, 7, 99), -2));
        all.add(new Call("run of no METHOD", x -> x.run(1, 6, 7, 7, 99), -2));
        all.add(new Call("run with LIMIT 0", x -> x.run(1, 2, 7, 7, 0), -2));
        all.add(new Call("run with LIMIT 3001", x -> x.run(2, 2, 7, 7, 3001), -2));
        all.add(new Call("told of no MANNER", x -> x.told(3, 0), -2));
        all.add(new Call("told of no what", x -> x.told(1, 9), -2));
        all.add(new Call("mark of none", x -> x.mark(1, 60), 0));
        all.add(new Call("field of none", x -> x.field(1, 8), 0));
        all.add(new Call("record of none", x -> x.record(1, 400, 0), 0));
        all.add(new Call("records of none", x -> x.records(1, 24), 0));
        all.add(new Call("count of another what", x -> x.count(4), -2));
        return all;
    }

    private static List<ToIntFunction<ProbeLoom>> questions() {
        List<ToIntFunction<ProbeLoom>> all = new ArrayList<>();
        for (int what : new int[] {0, 1, 3}) {
            all.add(x -> x.count(what));
        }
        all.add(x -> x.place());
        for (int m = 0; m < 6; m++) {
            askMethod(all, m);
        }
        for (int manner = 0; manner <= 2; manner++) {
            askRun(all, manner);
        }
        all.add(x -> x.differ());
        // What later calls answer hangs on what was left as well.
        all.add(x -> x.run(1, 2, 1, 9, 99));
        all.add(x -> x.run(2, 2, 1, 9, 99));
        askRun(all, 1);
        all.add(x -> x.differ());
        all.add(x -> x.clear());
        all.add(x -> x.probe(0, 0, 0, 0, 0));
        all.add(x -> x.weave(0));
        return all;
    }

    private static void askMethod(List<ToIntFunction<ProbeLoom>> all, int m) {
        for (int i = 0; i < 10; i++) {
            int what = i;
            all.add(x -> x.method(m, what));
        }
        for (int i = 0; i < 30; i++) {
            int at = i;
            all.add(x -> x.octet(m, true, at));
            all.add(x -> x.moved(m, at));
            if (i % 4 == 0) {
                all.add(x -> x.octet(m, false, at));
                all.add(x -> x.handler(m, true, at / 16, at / 4 % 4));
                all.add(x -> x.handler(m, false, at / 16, at / 4 % 4));
                all.add(x -> x.type(m, at / 4, 1));
            }
        }
        all.add(x -> x.octet(m, true, 652));
    }

    private static void askRun(List<ToIntFunction<ProbeLoom>> all, int manner) {
        for (int i = 0; i < 9; i++) {
            int what = i;
            all.add(x -> x.told(manner, what));
            all.add(x -> x.mark(manner, what));
            all.add(x -> x.field(manner, what));
            all.add(x -> x.records(manner, what));
        }
        for (int i = 0; i < 12; i++) {
            int at = i;
            all.add(x -> x.record(manner, at, 0));
            all.add(x -> x.record(manner, at, 1));
        }
    }

    private static void dueSame(Call call, List<ToIntFunction<ProbeLoom>> questions) {
        for (int from = 0; from < questions.size(); from += QUESTIONS) {
            ProbeLoom with = full();
            ProbeLoom without = full();
            Kit.due(call.name, call.made.applyAsInt(with), call.answer);
            int tape = call.name.equals("make FULL") ? 0 : 600;
            Kit.due("the TAPE behind " + call.name, with.count(2), tape);
            for (int i = from; i < questions.size() && i < from + QUESTIONS; i++) {
                ToIntFunction<ProbeLoom> question = questions.get(i);
                Kit.due("question " + i + " behind " + call.name, question.applyAsInt(with),
                        question.applyAsInt(without));
            }
        }
    }

    /** The TAPE's bytes are as they were behind refused feeds, cuts and others. */
    private static void tapeStays() {
        ProbeLoom x = new ProbeLoom();
        // 8 bytes are a METHOD: push 7, give; the other 592 are cut later.
        x.feed(0x00000003, 0x01072A00, -1, -1, -1);
        for (int i = 1; i < 30; i++) {
            x.feed(-1, -1, -1, -1, -1);
        }
        Kit.due("feed", x.feed(0, 0, 0, 0, 0), -3);
        Kit.due("cut", x.cut(601), -2);
        Kit.due("cut", x.cut(MIN), -2);
        Kit.due("probe", x.probe(0, 0, 0, 0, 0), -2);
        Kit.due("weave", x.weave(0), -2);
        Kit.due("run", x.run(0, 0, 0, 0, 9), -2);
        Kit.due("cut", x.cut(592), 8);
        Kit.due("make", x.make(), 0);
        Kit.dueEnd("the METHOD", x, 0, Kit.ab(0, 0, 9), 0, 7);
    }

    /** make() empties the TAPE, whether it told a METHOD, a FAULT or FULL; a FAULT leaves all METHODS. */
    private static void emptyBehindMake() {
        ProbeLoom x = new ProbeLoom();
        int[][] codes = {{42}, {20, 1}, {44}, {1, 7, 42}};
        int[] answers = {-14, -12, -11, 0};
        for (int i = 0; i < codes.length; i++) {
            Kit.due("make", Kit.make(x, 0, 0, codes[i]), answers[i]);
            Kit.due("TAPE", x.count(2), 0);
            Kit.due("METHODS", x.count(0), i < 3 ? 0 : 1);
        }
        Kit.due("make of nothing", x.make(), -11);
        Kit.due("HANDLER", Kit.make(x, 0, 0, Kit.bytes(1, 7, 42), new int[] {0, 0, 0, 0}), -13);
        Kit.due("TAPE", x.count(2), 0);
        // The first is as it was, and the next is told as if there had been no FAULTS.
        Kit.dueEnd("METHOD 0", x, 0, Kit.ab(0, 0, 9), 0, 7);
        Kit.due("its LENGTH", x.method(0, 2), 3);
        Kit.due("make", Kit.make(x, 0, 0, Kit.bytes(40, 0, 42)), 1);
        Kit.dueEnd("METHOD 1", x, 1, Kit.ab(0, 0, 9), 0, 7);
        Kit.due("its HANDLERS", x.method(1, 3), 0);
        Kit.due("its INSTRUCTIONS", x.method(1, 4), 2);
    }

    /** Of METHODS that a FAULT refused nothing comes into the next: no HANDLERS, TYPES, INSTRUCTIONS. */
    private static void refusedMethods() {
        int[] well = {3, 0, 41, 9, 42};
        int[] handler = {0, 3, 3, 0};
        ProbeLoom x = new ProbeLoom();
        Kit.due("a TARGET with too few", Kit.make(x, 1, 1, well, handler, handler), -14);
        Kit.due("no such HANDLER any more", Kit.make(x, 1, 1, well), 0);
        Kit.due("HANDLERS", x.method(0, 3), 0);
        Kit.dueEnd("nothing catches", x, 0, Kit.ab(7, 0, 9), 1, 7);
        int[] caught = {3, 0, 41, 42};
        Kit.due("two HANDLERS and a JUMP", Kit.make(x, 1, 1, Kit.bytes(3, 0, 41, 42, 20, 1), handler, handler), -12);
        Kit.due("one HANDLER", Kit.make(x, 1, 1, caught, new int[] {0, 2, 3, 0}), 1);
        x.probe(5, 1, 3, 0, 0);
        Kit.due("weave", x.weave(1), 8);
        Kit.due("one PAD", x.method(1, 9), 1);
        Kit.due("one HANDLER woven", x.method(1, 7), 1);
        Kit.dueBoth("nothing catches", x, 1, Kit.ab(7, 0, 9), Kit.ends(1, 7, 2));
        // Refused while TYPES at place 0 had changed: the next is looked at from there all the same.
        Kit.due("unlike STACKS", Kit.make(x, 1, 2, Kit.bytes(1, 1, 36, 4, 0, 1, 1, 33, 1, 255, 249, 255, 251)), -14);
        Kit.due("give of none", Kit.make(x, 0, 0, Kit.bytes(42)), -14);
        Kit.due("give of one", Kit.make(x, 0, 0, Kit.bytes(1, 1, 42)), 2);
    }
}
