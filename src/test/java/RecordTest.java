/** Promises 19, 20 and 21, and what each SORT of PROBE tells: record, records, differ. */
public final class RecordTest {
    public static void main(String[] args) {
        passAndFault();
        faultPassings();
        enterAndLeave();
        leaveByThrowing();
        stores();
        caught();
        replaces();
        limitBehindProbes();
        most();
        differ();
        wrongCalls();
        Kit.end();
    }

    private static int[] ab(int a, int b, int limit) {
        return new int[] {a, b, limit};
    }

    private static int[] ends(int ending, int answer, int steps) {
        return new int[] {ending, answer, steps};
    }

    private static void passAndFault() {
        // PASS 0, FAULT 1, PASS 2, FAULT 3 at one instruction: behind one that throws comes nothing.
        ProbeLoom x = Kit.loomOf(0, 0, Kit.bytes(1, 5, 42, 42), new int[] {2, 3, 3, 9});
        x.probe(0, 0, 2, 0, 0);
        x.probe(6, 0, 2, 1, 9);
        x.probe(0, 0, 2, 0, 0);
        x.probe(6, 0, 2, 1, 8);
        x.weave(0);
        Kit.dueBoth("a fault", x, 0, ab(0, 0, 50), ends(0, 9, 2), 0, 0);
        ProbeLoom y = Kit.loomOf(0, 0, Kit.bytes(1, 5, 42, 42), new int[] {2, 3, 3, 9});
        y.probe(6, 0, 2, 1, 8);
        y.weave(0);
        Kit.dueBoth("a fault that none handles", y, 0, ab(0, 0, 50), ends(1, 8, 1));
        for (int manner = 1; manner <= 2; manner++) {
            Kit.due("thrown at", y.told(manner, 6), 2);
            Kit.due("thrown in", y.told(manner, 7), 0);
        }
    }

    private static void faultPassings() {
        // Round and round; the handler goes back to the same instruction. a times.
        int[] code = {3, 0, 7, 5, 0, 255, 3, 0, 22, 248, 1, 3, 42, 7, 20, 242};
        ProbeLoom x = Kit.loomOf(1, 1, code, new int[] {0, 10, 13, 0});
        x.probe(6, 0, 0, 3, 9);
        x.probe(6, 0, 0, 3, 8);
        x.probe(0, 0, 0, 0, 0);
        x.probe(5, 0, 13, 0, 0);
        x.weave(0);
        // Passing 3 of probe 0 throws and is none of probe 1, whose third is the next.
        Kit.dueBoth("third passings", x, 0, ab(4, 0, 90), ends(0, 3, 4 * 5 + 2 + 4),
                2, 0, 2, 0, 3, 9, 3, 8, 2, 0, 2, 0);
        Kit.dueBoth("counted anew in each run", x, 0, ab(4, 0, 90), ends(0, 3, 26),
                2, 0, 2, 0, 3, 9, 3, 8, 2, 0, 2, 0);
        Kit.dueBoth("not so many", x, 0, ab(2, 0, 90), ends(0, 3, 12), 2, 0, 2, 0);
        // A recursion passes it in all its frames.
        ProbeLoom y = Kit.loomOf(1, 1, Kit.bytes(3, 0, 22, 5, 1, 0, 42, 3, 0, 1, 255, 9, 40, 0, 42));
        y.probe(6, 0, 0, 4, 77);
        y.probe(3, 0, 0, 0, 0);
        y.weave(0);
        Kit.dueBoth("in all frames", y, 0, ab(5, 0, 90), ends(1, 77, 18), 1, -77, 1, -77, 1, -77, 1, -77);
        Kit.due("frames", y.told(1, 8), 4);
    }

    private static void enterAndLeave() {
        ProbeLoom x = Kit.loomOf(3, 3, Kit.bytes(5, 1, 1, 3, 0, 22, 251, 3, 1, 42));
        x.probe(2, 0, 0, 0, 0);
        x.probe(3, 0, 0, 0, 0);
        x.probe(2, 0, 0, 0, 0);
        x.probe(0, 0, 0, 0, 0);
        x.weave(0);
        Kit.dueBoth("enter, three arguments", x, 0, ab(0, 7, 50), ends(0, 8, 5),
                0, 0, 0, 7, 0, 0, 2, 0, 2, 7, 2, 0, 3, 0, 1, 8);
        // A jump to place 0 passes no ENTER.
        Kit.dueBoth("jumps to 0", x, 0, ab(1, 7, 6), ends(2, 0, 6),
                0, 1, 0, 7, 0, 0, 2, 1, 2, 7, 2, 0, 3, 0, 3, 0, 3, 0);
        ProbeLoom none = Kit.loomOf(0, 3, Kit.bytes(1, 6, 42));
        none.probe(2, 0, 0, 0, 0);
        none.weave(0);
        Kit.dueBoth("enter, no argument", none, 0, ab(4, 7, 50), ends(0, 6, 2), 0, 0);
        // Caller and callee, each with its own.
        ProbeLoom y = Kit.loomOf(1, 1, Kit.bytes(3, 0, 6, 9, 42));
        Kit.make(y, 2, 2, Kit.bytes(3, 1, 40, 0, 42));
        y.probe(3, 1, 0, 0, 0);
        y.probe(2, 0, 0, 0, 0);
        y.probe(3, 0, 0, 0, 0);
        y.probe(2, 1, 0, 0, 0);
        y.weave(0);
        y.weave(1);
        Kit.dueBoth("two methods", y, 1, ab(1, 4, 50), ends(0, 8, 7), 3, 1, 3, 4, 1, 4, 2, 8, 0, 8);
    }

    private static void leaveByThrowing() {
        ProbeLoom x = Kit.loomOf(1, 1, Kit.bytes(3, 0, 41));
        Kit.make(x, 1, 1, Kit.bytes(3, 0, 40, 0, 42));
        Kit.make(x, 1, 1, Kit.bytes(3, 0, 40, 1, 42, 42), new int[] {0, 4, 5, 0});
        for (int m = 0; m < 3; m++) {
            x.probe(3, m, 0, 0, 0);
            x.probe(3, m, 0, 0, 0);
        }
        x.probe(5, 2, 5, 0, 0);
        for (int m = 0; m < 3; m++) {
            x.weave(m);
        }
        Kit.dueBoth("left and caught", x, 2, ab(30, 0, 50), ends(0, 30, 7),
                0, -30, 1, -30, 2, -30, 3, -30, 6, 30, 4, 30, 5, 30);
        Kit.dueBoth("left by all", x, 1, ab(30, 0, 50), ends(1, 30, 4), 0, -30, 1, -30, 2, -30, 3, -30);
        for (int manner = 1; manner <= 2; manner++) {
            Kit.due("thrown at", x.told(manner, 6), 2);
            Kit.due("thrown in", x.told(manner, 7), 0);
        }
        // A fault at the give: it is left by what is thrown, and not by the give.
        ProbeLoom y = Kit.loomOf(0, 0, Kit.bytes(1, 6, 42));
        y.probe(3, 0, 0, 0, 0);
        y.probe(6, 0, 2, 1, 100);
        y.weave(0);
        Kit.dueBoth("fault at the give", y, 0, ab(0, 0, 50), ends(1, 100, 1), 0, -100);
        // The 13th frame never begins: nothing enters or leaves it.
        ProbeLoom z = Kit.loomOf(0, 0, Kit.bytes(40, 0, 42));
        z.probe(2, 0, 0, 0, 0);
        z.probe(3, 0, 0, 0, 0);
        z.weave(0);
        int[] want = new int[48];
        for (int i = 0; i < 12; i++) {
            want[24 + 2 * i] = 1;
            want[24 + 2 * i + 1] = -105;
        }
        Kit.dueBoth("twelve frames", z, 0, ab(0, 0, 50), ends(1, 105, 12), want);
    }

    private static void stores() {
        // A row of 2 in local 1; field 3 gets a; int a of the row gets 6, then 8; its give is field 3.
        int[] code = {1, 2, 36, 4, 1, 3, 0, 35, 3, 3, 1, 3, 0, 1, 6, 39, 3, 1, 3, 0, 1, 8, 39, 34, 3, 42};
        ProbeLoom x = Kit.loomOf(1, 2, code);
        x.probe(4, 0, 22, 0, 0);
        x.probe(4, 0, 15, 0, 0);
        x.probe(4, 0, 7, 0, 0);
        x.probe(4, 0, 15, 0, 0);
        x.weave(0);
        Kit.dueBoth("stores", x, 0, ab(1, 0, 50), ends(0, 1, 15), 2, 0, 2, 1, 1, 0, 1, 6, 3, 0, 3, 6, 0, 6, 0, 8);
        Kit.dueBoth("lay that throws", x, 0, ab(2, 0, 50), ends(1, 102, 9), 2, 0, 2, 2);
        Kit.dueBoth("lay that throws, below", x, 0, ab(-1, 0, 50), ends(1, 102, 9), 2, 0, 2, -1);
        Kit.dueBoth("limit at the lay", x, 0, ab(1, 0, 8), ends(2, 0, 8), 2, 0, 2, 1);
        for (int manner = 1; manner <= 2; manner++) {
            Kit.due("rows", x.told(manner, 5), 1);
            Kit.due("field", x.field(manner, 3), 1);
        }
    }

    private static void caught() {
        // Target 4 is come to by what is thrown and by going on: only the first is CAUGHT.
        ProbeLoom x = Kit.loomOf(1, 1, Kit.bytes(3, 0, 43, 3, 0, 41, 43, 3, 0, 42), new int[] {0, 6, 6, 0});
        x.probe(0, 0, 6, 0, 0);
        x.probe(5, 0, 6, 0, 0);
        x.probe(5, 0, 6, 0, 0);
        x.weave(0);
        Kit.dueBoth("caught ahead of all", x, 0, ab(12, 0, 50), ends(0, 12, 7), 1, 12, 2, 12, 0, 0);
        ProbeLoom y = Kit.loomOf(1, 1, Kit.bytes(1, 3, 3, 0, 22, 4, 20, 3, 41, 42), new int[] {8, 9, 9, 0});
        Kit.due("come to otherwise", y.probe(5, 0, 9, 0, 0), 0);
        y.weave(0);
        Kit.dueBoth("not caught", y, 0, ab(0, 0, 50), ends(0, 3, 5));
        Kit.dueBoth("caught", y, 0, ab(1, 0, 50), ends(0, 3, 5), 0, 3);
    }

    private static void replaces() {
        // Of each that can be replaced: push, push s32, sums, neg, get, size, take, call.
        int[][] before = {{1, 7}, {2, 0, 0, 0, 7}, {34, 0}, {1, 7, 36, 37}, {1, 7, 36, 1, 3, 38}, {1, 249, 19}};
        int[] places = {0, 0, 0, 3, 5, 2};
        int[] was = {7, 7, 0, 7, 0, 7};
        for (int i = 0; i < before.length; i++) {
            ProbeLoom x = Kit.loomOf(0, 0, Kit.join(before[i], Kit.bytes(42)));
            x.probe(7, 0, places[i], 1000, 0);
            x.probe(7, 0, places[i], -5, 0);
            x.weave(0);
            x.run(0, 0, 0, 0, 50);
            Kit.dueBoth("replace " + i, x, 0, ab(0, 0, 50), ends(0, -5, x.told(0, 2)), 0, was[i], 1, 1000);
        }
        for (int op = 9; op <= 18; op++) {
            ProbeLoom x = Kit.loomOf(2, 2, Kit.bytes(3, 0, 3, 1, op, 42));
            x.probe(7, 0, 4, 99, 0);
            x.weave(0);
            x.run(0, 0, 9, 2, 50);
            Kit.dueBoth("replace of " + op, x, 0, ab(9, 2, 50), ends(0, 99, 4), 0, x.told(0, 1));
        }
        ProbeLoom div = Kit.loomOf(2, 2, Kit.bytes(3, 0, 3, 1, 12, 42, 42), new int[] {4, 5, 6, 0});
        div.probe(7, 0, 4, 99, 0);
        div.weave(0);
        Kit.dueBoth("not done, not replaced", div, 0, ab(9, 0, 50), ends(0, 101, 4));
        ProbeLoom call = Kit.loomOf(1, 1, Kit.bytes(3, 0, 6, 41));
        Kit.make(call, 1, 1, Kit.bytes(3, 0, 42));
        Kit.make(call, 1, 1, Kit.bytes(3, 0, 40, 1, 42));
        Kit.make(call, 1, 1, Kit.bytes(3, 0, 40, 0, 42));
        call.probe(7, 2, 2, 70, 0);
        call.probe(7, 3, 2, 71, 0);
        call.weave(2);
        call.weave(3);
        Kit.dueBoth("call replaced", call, 2, ab(5, 0, 50), ends(0, 70, 5), 0, 5);
        Kit.dueBoth("call thrown", call, 3, ab(5, 0, 50), ends(1, 5, 5));
    }

    private static void limitBehindProbes() {
        ProbeLoom x = Kit.loomOf(0, 0, Kit.bytes(1, 6, 42));
        x.probe(0, 0, 2, 0, 0);
        x.probe(3, 0, 0, 0, 0);
        x.probe(7, 0, 0, 3, 0);
        x.weave(0);
        // PASS and LEAVE are ahead of the give that does not begin.
        Kit.dueBoth("limit at the give", x, 0, ab(0, 0, 1), ends(2, 0, 1), 2, 6, 0, 0, 1, 3);
        // A fault ahead of what does not begin is thrown all the same.
        ProbeLoom y = Kit.loomOf(0, 0, Kit.bytes(1, 6, 42));
        y.probe(6, 0, 2, 1, 44);
        y.weave(0);
        Kit.dueBoth("fault at the limit", y, 0, ab(0, 0, 1), ends(1, 44, 1));
        ProbeLoom z = Kit.loomOf(0, 0, Kit.bytes(1, 6, 42, 42), new int[] {2, 3, 3, 0});
        z.probe(6, 0, 2, 1, 44);
        z.probe(5, 0, 3, 0, 0);
        z.probe(0, 0, 3, 0, 0);
        z.weave(0);
        Kit.dueBoth("caught at the limit", z, 0, ab(0, 0, 1), ends(2, 0, 1), 1, 44, 2, 0);
        // The call is the last step: its callee is entered, and its first instruction passed.
        ProbeLoom w = Kit.loomOf(1, 1, Kit.bytes(3, 0, 42));
        Kit.make(w, 1, 1, Kit.bytes(3, 0, 40, 0, 42));
        w.probe(2, 0, 0, 0, 0);
        w.probe(0, 0, 0, 0, 0);
        w.weave(0);
        Kit.dueBoth("limit in the callee", w, 1, ab(8, 0, 2), ends(2, 0, 2), 0, 8, 1, 0);
        Kit.due("two frames", w.told(1, 8), 2);
    }

    private static void most() {
        // a times round, with two probes each.
        ProbeLoom x = Kit.loomOf(1, 1, Kit.bytes(5, 0, 255, 3, 0, 22, 251, 1, 3, 42));
        x.probe(0, 0, 0, 0, 0);
        x.probe(1, 0, 5, 0, 0);
        x.weave(0);
        for (int rounds = 200; rounds <= 202; rounds++) {
            for (int manner = 1; manner <= 2; manner++) {
                x.run(manner, 0, rounds, 0, 3000);
                Kit.due("records in all", x.told(manner, 4), 2 * rounds);
                Kit.due("kept of 0", x.records(manner, 0), 200);
                Kit.due("kept of 1", x.records(manner, 1), 200);
                Kit.due("kept of none", x.records(manner, 2), 0);
                Kit.due("the last", x.record(manner, 399, 0), 1);
                Kit.due("its side", x.record(manner, 399, 1), rounds == 200 ? 0 : 1);
                Kit.due("none behind", x.record(manner, 400, 0), 0);
                Kit.due("none behind: int", x.record(manner, 401, 1), 0);
            }
            Kit.due("differ", x.differ(), -1);
        }
        x.run(1, 0, 1, 0, 3000);
        Kit.due("a new run has its own", x.records(1, 0), 1);
        Kit.due("a new run has its own records", x.record(1, 2, 0), 0);
    }

    private static void differ() {
        ProbeLoom x = Kit.loomOf(1, 1, Kit.bytes(3, 0, 43, 3, 0, 42));
        Kit.due("no runs", x.differ(), -1);
        x.probe(0, 0, 0, 0, 0);
        x.probe(7, 0, 0, 0, 0);
        x.probe(0, 0, 2, 0, 0);
        x.probe(3, 0, 0, 0, 0);
        x.weave(0);
        x.run(1, 0, 4, 0, 50);
        Kit.due("only one of them ran", x.differ(), 0);
        x.run(2, 0, 4, 0, 50);
        Kit.due("the same", x.differ(), -1);
        x.run(2, 0, 5, 0, 50);
        Kit.due("an int is another", x.differ(), 2);
        x.run(2, 0, 4, 0, 1);
        Kit.due("one is shorter", x.differ(), 2);
        x.run(1, 0, 4, 0, 1);
        Kit.due("both are", x.differ(), -1);
        x.run(2, 0, 4, 0, 50);
        Kit.due("the other is shorter", x.differ(), 2);
        x.clear();
        x.probe(0, 0, 2, 0, 0);
        x.probe(0, 0, 0, 0, 0);
        x.weave(0);
        x.run(1, 0, 4, 0, 50);
        Kit.due("a probe is another", x.differ(), 0);
        x.run(0, 0, 4, 0, 50);
        Kit.due("plain runs do not matter", x.differ(), 0);
    }

    private static void wrongCalls() {
        ProbeLoom x = Kit.loomOf(1, 1, Kit.bytes(3, 0, 42));
        x.probe(3, 0, 0, 0, 0);
        x.weave(0);
        x.run(0, 0, 4, 0, 50);
        x.run(1, 0, 4, 0, 50);
        x.run(2, 0, 4, 0, 50);
        int[] wild = {-1, 3, Integer.MIN_VALUE, Integer.MAX_VALUE};
        for (int w : wild) {
            Kit.due("record manner " + w, x.record(w, 0, 1), 0);
            Kit.due("records manner " + w, x.records(w, 0), 0);
            Kit.due("record " + w, x.record(1, w, 1), 0);
            Kit.due("record what " + w, x.record(1, 0, w), 0);
            Kit.due("records of " + w, x.records(1, w), 0);
        }
        Kit.due("record what 2", x.record(1, 0, 2), 0);
        Kit.due("record", x.record(1, 0, 1), 4);
        Kit.due("plain has none", x.records(0, 0), 0);
        Kit.due("watched has one", x.records(2, 0), 1);
    }
}
