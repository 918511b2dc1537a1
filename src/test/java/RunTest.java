/** Promises 15 to 18: run, told, mark, field, by each INSTRUCTION and each way to end. */
public final class RunTest {
    private static final int MIN = Integer.MIN_VALUE;
    private static final int MAX = Integer.MAX_VALUE;

    public static void main(String[] args) {
        pushes();
        sums();
        choices();
        moves();
        rows();
        throwing();
        handling();
        calling();
        limits();
        marks();
        fields();
        arguments();
        latest();
        wrongCalls();
        Kit.end();
    }

    /** Runs in all manners, unwoven: all alike. */
    private static void ends(String what, ProbeLoom x, int m, int a, int b, int ending, int answer) {
        for (int manner = 0; manner <= 2; manner++) {
            Kit.due(what + ": run", x.run(manner, m, a, b, 3000), ending);
            Kit.due(what + ": told 0", x.told(manner, 0), ending);
            Kit.due(what + ": told 1", x.told(manner, 1), answer);
        }
    }

    private static void answers(String what, int answer, int[]... code) {
        ends(what, Kit.loomOf(0, 3, Kit.join(Kit.join(code), Kit.bytes(42))), 0, 0, 0, 0, answer);
    }

    private static void throwsAt(String what, int kind, int place, int[]... code) {
        ProbeLoom x = Kit.loomOf(0, 3, Kit.join(Kit.join(code), Kit.bytes(1, 1, 42)));
        ends(what, x, 0, 0, 0, 1, kind);
        for (int manner = 0; manner <= 2; manner++) {
            Kit.due(what + ": place", x.told(manner, 6), place);
            Kit.due(what + ": method", x.told(manner, 7), 0);
        }
    }

    private static void pushes() {
        answers("push -1", -1, Kit.bytes(1, 255));
        answers("push 127", 127, Kit.bytes(1, 127));
        answers("push -128", -128, Kit.bytes(1, 128));
        answers("push s32", 0x01020304, Kit.word(0x01020304));
        answers("push s32 least", MIN, Kit.word(MIN));
        answers("push s32 -2", -2, Kit.word(-2));
    }

    private static int sum(int op, int i, int j) {
        switch (op) {
            case 9: return i + j;
            case 10: return i - j;
            case 11: return i * j;
            case 12: return i / j;
            case 13: return i % j;
            case 14: return i & j;
            case 15: return i | j;
            case 16: return i ^ j;
            case 17: return i << j;
            default: return i >> j;
        }
    }

    private static void sums() {
        int[] some = {0, 1, -1, 7, -7, 31, 32, 33, -32, MIN, MAX};
        for (int op = 9; op <= 18; op++) {
            ProbeLoom x = Kit.loomOf(2, 2, Kit.bytes(3, 0, 3, 1, op, 42));
            for (int i : some) {
                for (int j : some) {
                    boolean none = j == 0 && (op == 12 || op == 13);
                    Kit.due(op + " of " + i + " " + j, x.run(0, 0, i, j, 9), none ? 1 : 0);
                    Kit.due(op + " of " + i + " " + j, x.told(0, 1), none ? 101 : sum(op, i, j));
                }
            }
        }
        ProbeLoom neg = Kit.loomOf(1, 1, Kit.bytes(3, 0, 19, 42));
        ends("neg", neg, 0, 7, 0, 0, -7);
        ends("neg least", neg, 0, MIN, 0, 0, MIN);
        ProbeLoom least = Kit.loomOf(2, 2, Kit.bytes(3, 0, 3, 1, 12, 42));
        ends("least by -1", least, 0, MIN, -1, 0, MIN);
        throwsAt("div by 0", 101, 4, Kit.bytes(1, 5, 1, 0, 12));
        throwsAt("rem by 0", 101, 4, Kit.bytes(1, 5, 1, 0, 13));
    }

    private static void choices() {
        int[] some = {MIN, -1, 0, 1, MAX};
        for (int op = 21; op <= 32; op++) {
            boolean two = op >= 27;
            int[] load = two ? Kit.bytes(3, 0, 3, 1) : Kit.bytes(3, 0, 0, 0);
            ProbeLoom s = Kit.loomOf(2, 2, Kit.join(load, Kit.bytes(op, 5, 1, 0, 42, 1, 1, 42)));
            ProbeLoom l = Kit.loomOf(2, 2, Kit.join(load, Kit.bytes(op + 64, 0, 6, 1, 0, 42, 1, 1, 42)));
            for (int i : some) {
                for (int j : some) {
                    int by = two ? j : 0;
                    boolean[] ways = {i == by, i != by, i < by, i >= by, i > by, i <= by};
                    int want = ways[(op - 21) % 6] ? 1 : 0;
                    s.run(0, 0, i, j, 9);
                    l.run(0, 0, i, j, 9);
                    Kit.due("choice " + op + " of " + i + " " + j, s.told(0, 1), want);
                    Kit.due("long choice " + op + " of " + i + " " + j, l.told(0, 1), want);
                }
            }
        }
        answers("jump", 4, Kit.bytes(20, 4, 1, 9, 1, 4));
        answers("long jump", 4, Kit.bytes(84, 0, 5, 1, 9, 1, 4));
        ProbeLoom table = Kit.loomOf(1, 1, Kit.bytes(3, 0, 33, 2, 0, 8, 0, 11, 0, 14, 1, 9, 42, 1, 10, 42, 1, 11, 42));
        int[][] ways = {{0, 10}, {1, 11}, {2, 9}, {-1, 9}, {MIN, 9}, {MAX, 9}};
        for (int[] way : ways) {
            ends("table by " + way[0], table, 0, way[0], 0, 0, way[1]);
        }
    }

    private static void moves() {
        answers("store and load", 6, Kit.bytes(1, 6, 4, 2, 1, 7, 4, 1, 3, 2));
        answers("inc", 1, Kit.bytes(1, 6, 4, 2, 5, 2, 251, 3, 2));
        answers("inc wraps", MIN, Kit.word(MAX), Kit.bytes(4, 0, 5, 0, 1, 3, 0));
        answers("dup", 10, Kit.bytes(1, 5, 6, 9));
        answers("swap", 3, Kit.bytes(1, 2, 1, 5, 8, 10));
        answers("pop", 2, Kit.bytes(1, 2, 1, 5, 7));
        answers("nop", 2, Kit.bytes(0, 1, 2, 0));
        answers("a field is 0", 0, Kit.bytes(34, 7));
        answers("put and get", 8, Kit.bytes(1, 8, 35, 7, 1, 9, 35, 6, 34, 7));
    }

    private static void rows() {
        answers("size", 50, Kit.bytes(1, 50, 36, 37));
        answers("size 0", 0, Kit.bytes(1, 0, 36, 37));
        answers("a new row is 0", 0, Kit.bytes(1, 50, 36, 1, 49, 38));
        answers("lay and take", 9, Kit.bytes(1, 3, 36, 4, 0, 3, 0, 1, 2, 1, 9, 39, 3, 0, 1, 2, 38));
        answers("two names of one row", 9,
                Kit.bytes(1, 3, 36, 6, 4, 0, 4, 1, 3, 0, 1, 2, 1, 9, 39, 3, 1, 1, 2, 38));
        answers("two rows", 0, Kit.bytes(1, 3, 36, 4, 0, 1, 3, 36, 4, 1, 3, 0, 1, 2, 1, 9, 39, 3, 1, 1, 2, 38));
        throwsAt("row 51", 103, 2, Kit.bytes(1, 51, 36, 7));
        throwsAt("row -1", 103, 2, Kit.bytes(1, 255, 36, 7));
        throwsAt("row least", 103, 5, Kit.word(MIN), Kit.bytes(36, 7));
        throwsAt("take -1", 102, 5, Kit.bytes(1, 3, 36, 1, 255, 38, 7));
        throwsAt("take 3", 102, 5, Kit.bytes(1, 3, 36, 1, 3, 38, 7));
        throwsAt("take of an empty one", 102, 5, Kit.bytes(1, 0, 36, 1, 0, 38, 7));
        throwsAt("lay 3", 102, 7, Kit.bytes(1, 3, 36, 1, 3, 1, 1, 39));
        throwsAt("lay -1", 102, 7, Kit.bytes(1, 3, 36, 1, 255, 1, 1, 39));
        // As many rows as a, of b ints each; gives the size of the last.
        ProbeLoom x = Kit.loomOf(2, 3, Kit.bytes(3, 1, 36, 4, 2, 5, 0, 255, 3, 0, 22, 246, 3, 2, 37, 42));
        x.run(0, 0, 30, 50, 3000);
        Kit.due("30 rows", x.told(0, 0), 0);
        Kit.due("30 rows made", x.told(0, 5), 30);
        x.run(0, 0, 31, 50, 3000);
        Kit.due("31 rows", x.told(0, 1), 104);
        Kit.due("31 rows: thrown at", x.told(0, 6), 2);
        Kit.due("31 rows: made", x.told(0, 5), 30);
        x.run(0, 0, 1, 51, 3000);
        Kit.due("none was made", x.told(0, 5), 0);
        // Bytes of rows of an earlier run are 0 again.
        ProbeLoom y = Kit.loomOf(1, 2, Kit.bytes(1, 9, 36, 4, 1, 3, 1, 1, 8, 38, 3, 1, 1, 8, 1, 77, 39, 42));
        ends("rows are new in each run", y, 0, 0, 0, 0, 0);
        // 103 ahead of 104
        ProbeLoom z = Kit.loomOf(1, 1, Kit.join(Kit.times(30, 1, 0, 36, 7), Kit.bytes(3, 0, 36, 7, 1, 1, 42)));
        ends("the 31st with too many", z, 0, 51, 0, 1, 103);
        ends("the 31st", z, 0, 50, 0, 1, 104);
    }

    private static void throwing() {
        ProbeLoom x = Kit.loomOf(1, 1, Kit.bytes(0, 3, 0, 41));
        int[][] kinds = {{1, 1}, {99, 99}, {100, 100}, {0, 100}, {-1, 100}, {101, 100}, {MIN, 100}, {MAX, 100}};
        for (int[] k : kinds) {
            ends("throw " + k[0], x, 0, k[0], 0, 1, k[1]);
            Kit.due("steps", x.told(0, 2), 3);
            Kit.due("place", x.told(0, 6), 3);
            Kit.due("method", x.told(0, 7), 0);
        }
    }

    private static void handling() {
        // load 0, load 1, div, give; each handler marks a sign of its own and gives the kind
        int[] code = {3, 0, 3, 1, 12, 42, 1, 1, 43, 42, 1, 2, 43, 42};
        ProbeLoom kind = Kit.loomOf(2, 2, code, new int[] {0, 6, 6, 100}, new int[] {0, 6, 10, 101});
        ends("the one with its kind", kind, 0, 1, 0, 0, 101);
        Kit.due("second", kind.mark(0, 0), 2);
        ProbeLoom any = Kit.loomOf(2, 2, code, new int[] {0, 6, 6, 0}, new int[] {0, 6, 10, 101});
        ends("the first that fits", any, 0, 1, 0, 0, 101);
        Kit.due("first", any.mark(0, 0), 1);
        ProbeLoom early = Kit.loomOf(2, 2, code, new int[] {0, 4, 6, 0}, new int[] {4, 5, 10, 0});
        ends("TO is without", early, 0, 1, 0, 0, 101);
        Kit.due("second", early.mark(0, 0), 2);
        ProbeLoom none = Kit.loomOf(2, 2, code, new int[] {0, 4, 6, 0}, new int[] {5, 6, 10, 0});
        ends("none there", none, 0, 1, 0, 1, 101);
        Kit.due("steps of what is caught", kind.told(0, 2), 6);
        // What the handler throws goes on from there; 200 is a kind that nothing has.
        ProbeLoom again = Kit.loomOf(1, 1, Kit.bytes(3, 0, 41, 0, 41), new int[] {0, 3, 3, 7}, new int[] {0, 5, 3, 200});
        ends("thrown again", again, 0, 7, 0, 1, 7);
        Kit.due("told of the latest throw", again.told(0, 6), 4);
        // The stack is just the kind, whatever was on it; locals stay.
        ProbeLoom deep = Kit.loomOf(2, 3, Kit.bytes(1, 4, 4, 2, 1, 9, 1, 9, 1, 9, 1, 0, 12, 42, 3, 2, 9, 42),
                new int[] {4, 13, 14, 101});
        ends("stack and locals", deep, 0, 0, 0, 0, 105);
        // A handler round its own target ends by LIMIT.
        ProbeLoom round = Kit.loomOf(0, 0, Kit.bytes(1, 5, 41), new int[] {0, 3, 2, 0});
        Kit.due("round", round.run(0, 0, 0, 0, 100), 2);
        Kit.due("round steps", round.told(0, 2), 100);
    }

    private static void calling() {
        // 0: a - b; 1: calls 0 with (a, b), then 0 with (that, 1)
        ProbeLoom x = Kit.loomOf(2, 3, Kit.bytes(3, 0, 3, 1, 10, 42));
        Kit.make(x, 2, 2, Kit.bytes(3, 0, 3, 1, 40, 0, 1, 1, 40, 0, 42));
        ends("order of arguments", x, 1, 20, 5, 0, 14);
        Kit.due("steps", x.told(0, 2), 14);
        Kit.due("frames", x.told(0, 8), 2);
        // Calls itself with a - 1 until that is 0, and gives how many calls came back.
        ProbeLoom down = Kit.loomOf(1, 2, Kit.bytes(3, 0, 22, 5, 1, 0, 42, 3, 0, 1, 255, 9, 40, 0, 1, 1, 9, 42));
        ends("11 calls", down, 0, 11, 0, 0, 11);
        Kit.due("12 frames", down.told(0, 8), 12);
        ends("12 calls", down, 0, 12, 0, 1, 105);
        Kit.due("12 frames at most", down.told(0, 8), 12);
        Kit.due("105 at the call", down.told(0, 6), 12);
        // The same with the call caught: the deepest gives 105, all above add 1.
        ProbeLoom caught = Kit.loomOf(1, 2, Kit.bytes(3, 0, 22, 5, 1, 0, 42, 3, 0, 1, 255, 9, 40, 0, 1, 1, 9, 42, 42),
                new int[] {12, 14, 18, 105});
        ends("caught at the call", caught, 0, 12, 0, 0, 105 + 11);
        // Locals of a callee begin as 0, and the caller's stay.
        ProbeLoom y = Kit.loomOf(0, 2, Kit.bytes(1, 9, 4, 1, 3, 1, 42));
        Kit.make(y, 1, 2, Kit.bytes(1, 4, 4, 1, 1, 50, 40, 0, 9, 3, 1, 9, 42));
        ends("frames of their own", y, 1, 0, 0, 0, 63);
        thrownFromDeep();
    }

    private static void thrownFromDeep() {
        ProbeLoom x = Kit.loomOf(1, 1, Kit.bytes(0, 3, 0, 41));
        Kit.make(x, 1, 1, Kit.bytes(3, 0, 40, 0, 42));
        Kit.make(x, 1, 1, Kit.bytes(3, 0, 40, 1, 42, 1, 3, 9, 42), new int[] {2, 4, 5, 44});
        ends("caught by the outermost", x, 2, 44, 0, 0, 47);
        ends("caught by none", x, 2, 45, 0, 1, 45);
        Kit.due("first thrown at", x.told(0, 6), 3);
        Kit.due("in method", x.told(0, 7), 0);
        Kit.due("frames", x.told(0, 8), 3);
        Kit.due("steps", x.told(0, 2), 7);
    }

    private static void limits() {
        ProbeLoom x = Kit.loomOf(0, 0, Kit.bytes(1, 4, 35, 0, 1, 5, 42));
        int[] want = {0, 2, 2, 2, 0, 0};
        for (int limit = 1; limit <= 5; limit++) {
            for (int manner = 0; manner <= 2; manner++) {
                Kit.due("limit " + limit, x.run(manner, 0, 0, 0, limit), want[limit]);
                Kit.due("steps by " + limit, x.told(manner, 2), Math.min(limit, 4));
                Kit.due("answer by " + limit, x.told(manner, 1), limit < 4 ? 0 : 5);
                Kit.due("field by " + limit, x.field(manner, 0), limit < 2 ? 0 : 4);
                Kit.due("place by " + limit, x.told(manner, 6), -1);
                Kit.due("method by " + limit, x.told(manner, 7), -1);
                Kit.due("frames by " + limit, x.told(manner, 8), 1);
            }
        }
        // What throws at the last step is thrown, not cut.
        ProbeLoom y = Kit.loomOf(0, 0, Kit.bytes(1, 4, 41));
        Kit.due("thrown at the limit", y.run(0, 0, 0, 0, 2), 1);
        Kit.due("cut ahead of it", y.run(0, 0, 0, 0, 1), 2);
        ProbeLoom z = Kit.loomOf(0, 0, Kit.bytes(20, 0));
        Kit.due("3000", z.run(2, 0, 0, 0, 3000), 2);
        Kit.due("3000 steps", z.told(2, 2), 3000);
        // Steps of callees count, and so does the call that has not come back.
        ProbeLoom c = Kit.loomOf(0, 0, Kit.bytes(0, 0, 1, 1, 42));
        Kit.make(c, 0, 0, Kit.bytes(40, 0, 42));
        Kit.due("in the callee", c.run(0, 1, 0, 0, 3), 2);
        Kit.due("steps in the callee", c.told(0, 2), 3);
        Kit.due("frames in the callee", c.told(0, 8), 2);
        Kit.due("just enough", c.run(0, 1, 0, 0, 6), 0);
        Kit.due("all steps", c.told(0, 2), 6);
        Kit.due("one too few", c.run(0, 1, 0, 0, 5), 2);
    }

    private static void marks() {
        // Marks a, a - 1 .. 1.
        ProbeLoom x = Kit.loomOf(1, 1, Kit.bytes(3, 0, 43, 5, 0, 255, 3, 0, 22, 248, 3, 0, 42));
        for (int manner = 0; manner <= 2; manner++) {
            x.run(manner, 0, 3, 0, 3000);
            Kit.due("three marks", x.told(manner, 3), 3);
            int[] want = {3, 2, 1, 0};
            for (int i = 0; i < 4; i++) {
                Kit.due("mark " + i, x.mark(manner, i), want[i]);
            }
            x.run(manner, 0, 60, 0, 3000);
            Kit.due("60 marks", x.told(manner, 3), 60);
            Kit.due("the last", x.mark(manner, 59), 1);
            x.run(manner, 0, 61, 0, 3000);
            Kit.due("61 marks", x.told(manner, 3), 60);
            Kit.due("the last kept", x.mark(manner, 59), 2);
            Kit.due("none behind", x.mark(manner, 60), 0);
            Kit.due("none ahead", x.mark(manner, -1), 0);
            Kit.due("none far", x.mark(manner, MAX), 0);
            x.run(manner, 0, 1, 0, 3000);
            Kit.due("a new run has its own", x.mark(manner, 1), 0);
        }
        Kit.due("manner 3", x.mark(3, 0), 0);
        Kit.due("manner -1", x.mark(-1, 0), 0);
    }

    private static void fields() {
        ProbeLoom x = Kit.loomOf(1, 1, Kit.bytes(34, 0, 3, 0, 9, 35, 0, 1, 7, 35, 7, 3, 0, 41));
        for (int manner = 0; manner <= 2; manner++) {
            x.run(manner, 0, 5, 0, 100);
            x.run(manner, 0, 6, 0, 100);
            Kit.due("fields are 0 in each run", x.field(manner, 0), 6);
            Kit.due("field 7", x.field(manner, 7), 7);
            Kit.due("field 1", x.field(manner, 1), 0);
            Kit.due("field 8", x.field(manner, 8), 0);
            Kit.due("field -1", x.field(manner, -1), 0);
            Kit.due("field least", x.field(manner, MIN), 0);
        }
        Kit.due("manner 3", x.field(3, 0), 0);
        Kit.due("manner -1", x.field(-1, 0), 0);
    }

    private static void arguments() {
        ProbeLoom x = Kit.loomOf(4, 5, Kit.bytes(3, 0, 43, 3, 1, 43, 3, 2, 43, 3, 3, 43, 1, 0, 42));
        x.run(0, 0, 11, 22, 100);
        int[] want = {11, 22, 0, 0};
        for (int i = 0; i < 4; i++) {
            Kit.due("argument " + i, x.mark(0, i), want[i]);
        }
        ProbeLoom one = Kit.loomOf(1, 2, Kit.bytes(3, 0, 42));
        ends("one argument", one, 0, 11, 22, 0, 11);
        ProbeLoom none = Kit.loomOf(0, 2, Kit.bytes(1, 5, 42));
        ends("no argument", none, 0, 11, 22, 0, 5);
    }

    private static void latest() {
        ProbeLoom x = Kit.loomOf(1, 1, Kit.bytes(3, 0, 43, 3, 0, 35, 2, 3, 0, 42));
        x.run(0, 0, 4, 0, 100);
        x.run(1, 0, 5, 0, 100);
        x.run(2, 0, 6, 0, 100);
        x.run(1, 0, 7, 0, 4);
        int[] answers = {4, 0, 6};
        int[] values = {4, 7, 6};
        for (int manner = 0; manner <= 2; manner++) {
            Kit.due("each manner has its latest: answer", x.told(manner, 1), answers[manner]);
            Kit.due("each manner has its latest: mark", x.mark(manner, 0), values[manner]);
            Kit.due("each manner has its latest: field", x.field(manner, 2), values[manner]);
        }
    }

    private static void wrongCalls() {
        ProbeLoom x = Kit.loomOf(1, 1, Kit.bytes(3, 0, 42));
        x.run(0, 0, 9, 0, 10);
        int[][] wrong = {{-1, 0, 10}, {3, 0, 10}, {0, -1, 10}, {0, 1, 10}, {0, 6, 10}, {0, 0, 0}, {0, 0, -1},
            {0, 0, 3001}, {MAX, 0, 10}, {0, MAX, 10}, {0, MIN, 10}, {0, 0, MAX}, {0, 0, MIN}};
        for (int[] w : wrong) {
            Kit.due("run " + w[0] + " " + w[1] + " " + w[2], x.run(w[0], w[1], 5, 5, w[2]), -2);
            Kit.due("the latest stays", x.told(0, 1), 9);
        }
        Kit.due("one run", x.count(3), 1);
        Kit.due("others had none", x.told(1, 0), -1);
        Kit.due("told manner -1", x.told(-1, 0), -2);
        Kit.due("told manner 3", x.told(3, 0), -2);
        Kit.due("told what -1", x.told(0, -1), -2);
        Kit.due("told what 9", x.told(0, 9), -2);
        Kit.due("told what 9 without a run", x.told(1, 9), -2);
        int[] want = {0, 9, 2, 0, 0, 0, -1, -1, 1};
        for (int what = 0; what < want.length; what++) {
            Kit.due("told " + what, x.told(0, what), want[what]);
        }
    }
}
