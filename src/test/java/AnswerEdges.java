/** Promises 15 to 22: what a RUN is told of. */
final class AnswerEdges {
    private static final int MIN = Integer.MIN_VALUE;
    private static final int MAX = Integer.MAX_VALUE;
    private static final int[] NO_MANNERS = {-1, 3, 4, MIN, MAX};

    private AnswerEdges() {
    }

    static void all(Edges edges) {
        edges.chapter("## Promise 15: run");
        edges.test("`int run(int manner, int m, int a, int b, int limit)`: A RUN in a MANNER (0 .. 2) of METHOD m with "
                + "a, b, and a LIMIT (1 .. 3000): 0 it answered, 1 THROWN, 2 LIMIT.", AnswerEdges::run);
        edges.test("BAD: no such MANNER, METHOD, LIMIT.", AnswerEdges::runBad);
        told(edges);
        edges.chapter("## Promise 17: mark");
        edges.test("`int mark(int manner, int i)`: MARK i of the latest RUN in a MANNER; 0: none such.",
                AnswerEdges::mark);
        edges.chapter("## Promise 18: field");
        edges.test("`int field(int manner, int f)`: FIELD f as the latest RUN in a MANNER left it; 0: none such.",
                AnswerEdges::field);
        edges.chapter("## Promise 19: record");
        edges.test("`int record(int manner, int i, int what)`: RECORD i of the latest RUN in a MANNER: 0 its PROBE, 1 "
                + "its INT. 0: none such.", AnswerEdges::record);
        edges.chapter("## Promise 20: records");
        edges.test("`int records(int manner, int probe)`: How many RECORDS of a PROBE are among those that were kept of "
                + "the latest RUN in a MANNER; 0: none such.", AnswerEdges::records);
        edges.chapter("## Promise 21: differ");
        edges.test("`int differ()`: The first RECORD in which the latest RUNS in MANNERS 1 and 2 differ (one that only "
                + "one of them kept, too); NONE: in none.", AnswerEdges::differ);
        edges.chapter("## Promise 22: count");
        edges.test("`int count(int what)`: How many METHODS (0), PROBES (1), bytes of the TAPE (2), RUNS (3). BAD: "
                + "another what.", AnswerEdges::count);
    }

    private static void told(Edges edges) {
        edges.chapter("## Promise 16: told");
        edges.test("`int told(int manner, int what)`: Of the latest RUN in a MANNER: 0 what it was (NONE: there was "
                + "none);", AnswerEdges::toldWhat);
        edges.test("1 its answer, or the KIND (0 by LIMIT);", AnswerEdges::toldAnswer);
        edges.test("2 STEPS;", AnswerEdges::toldSteps);
        edges.test("3 MARKS kept;", AnswerEdges::toldMarks);
        edges.test("4 RECORDS in all;", AnswerEdges::toldRecords);
        edges.test("5 ROWS made;", AnswerEdges::toldRows);
        edges.test("6 if it was THROWN the place in the CODE of the INSTRUCTION at which that was thrown first, else "
                + "NONE; 7 the METHOD of that, else NONE;", AnswerEdges::toldWhere);
        edges.test("8 the most FRAMES at a time.", AnswerEdges::toldFrames);
        edges.test("0 of 1 to 8 without one (NONE of 6, 7).", AnswerEdges::toldWithout);
        edges.test("BAD: no such MANNER, what.", AnswerEdges::toldBad);
    }

    /** a above 0: answers a; below: throws it as KIND; 0: goes round. */
    private static ProbeLoom three() {
        // 0 load 0, 2 jump if above to 12, 4 load 0, 6 jump if 0 to 4, 8 load 0, 10 neg, 11 throw, 12 load 0, 14 give
        return Kit.loomOf(1, 1, Kit.bytes(3, 0, 25, 10, 3, 0, 21, -2, 3, 0, 19, 41, 3, 0, 42));
    }

    private static void run() {
        ProbeLoom x = three();
        for (int manner = 0; manner <= 2; manner++) {
            Kit.due("it answered", x.run(manner, 0, 5, 0, 3000), 0);
            Kit.due("THROWN", x.run(manner, 0, -5, 0, 3000), 1);
            Kit.due("LIMIT", x.run(manner, 0, 0, 0, 3000), 2);
            Kit.due("3000 STEPS", x.told(manner, 2), 3000);
            Kit.due("LIMIT 1", x.run(manner, 0, 5, 0, 1), 2);
            Kit.due("one STEP", x.told(manner, 2), 1);
            Kit.due("LIMIT 2999", x.run(manner, 0, 0, 0, 2999), 2);
            Kit.due("2999 STEPS", x.told(manner, 2), 2999);
        }
        ProbeLoom six = new ProbeLoom();
        for (int m = 0; m < 6; m++) {
            Kit.make(six, 2, 2, Kit.bytes(3, 0, 3, 1, 9, 1, m, 9, 42));
        }
        for (int m = 0; m < 6; m++) {
            Kit.dueEnd("METHOD " + m, six, m, Kit.ab(MAX, 1, 6), 0, MIN + m);
        }
    }

    private static void runBad() {
        ProbeLoom x = three();
        for (int manner : NO_MANNERS) {
            Kit.due("MANNER " + manner, x.run(manner, 0, 1, 1, 9), -2);
        }
        int[] methods = {-1, 1, 5, 6, MIN, MAX};
        int[] limits = {0, -1, 3001, 3002, MIN, MAX};
        for (int manner = 0; manner <= 2; manner++) {
            for (int m : methods) {
                Kit.due("METHOD " + m, x.run(manner, m, 1, 1, 9), -2);
            }
            for (int limit : limits) {
                Kit.due("LIMIT " + limit, x.run(manner, 0, 1, 1, limit), -2);
            }
            Kit.due("no RUN", x.told(manner, 0), -1);
        }
        Kit.due("no RUNS", x.count(3), 0);
        Kit.due("no METHODS", new ProbeLoom().run(0, 0, 0, 0, 1), -2);
    }

    private static void toldWhat() {
        ProbeLoom x = three();
        int[] values = {5, -5, 0};
        for (int manner = 0; manner <= 2; manner++) {
            Kit.due("there was none", x.told(manner, 0), -1);
            for (int i = 0; i < 3; i++) {
                x.run(manner, 0, values[i], 0, 99);
                Kit.due("what it was", x.told(manner, 0), i);
            }
        }
        // The latest in each MANNER; what another MANNER did is not in it.
        x.run(1, 0, 5, 0, 99);
        Kit.due("MANNER 0", x.told(0, 0), 2);
        Kit.due("MANNER 1", x.told(1, 0), 0);
        Kit.due("MANNER 2", x.told(2, 0), 2);
    }

    private static void toldAnswer() {
        ProbeLoom x = three();
        int[][] cases = {{5, 5}, {MAX, MAX}, {-5, 5}, {-99, 99}, {-100, 100}, {MIN, 100}, {0, 0}};
        for (int manner = 0; manner <= 2; manner++) {
            for (int[] c : cases) {
                x.run(manner, 0, c[0], 0, 99);
                Kit.due("of " + c[0], x.told(manner, 1), c[1]);
            }
            x.run(manner, 0, 7, 0, 99);
            x.run(manner, 0, 7, 0, 3);
            Kit.due("0 by LIMIT, whatever was before", x.told(manner, 1), 0);
        }
        Kit.dueEnd("an answer of -1", Kit.loomOf(0, 0, Kit.bytes(1, 255, 42)), 0, Kit.ab(0, 0, 9), 0, -1);
    }

    private static void toldSteps() {
        ProbeLoom x = three();
        int[][] cases = {{5, 99, 4}, {5, 4, 4}, {5, 3, 3}, {-5, 99, 7}, {-5, 7, 7}, {-5, 6, 6}, {0, 3000, 3000}, {5, 1, 1}};
        for (int manner = 0; manner <= 2; manner++) {
            for (int[] c : cases) {
                x.run(manner, 0, c[0], 0, c[1]);
                Kit.due("of " + c[0] + " with LIMIT " + c[1], x.told(manner, 2), c[2]);
            }
        }
        ProbeLoom none = Kit.loomOf(0, 0, Kit.bytes(1, 5, 42));
        none.probe(6, 0, 0, 1, 9);
        none.weave(0);
        Kit.dueBoth("none", none, 0, Kit.ab(0, 0, 9), Kit.ends(1, 9, 0));
    }

    private static void toldMarks() {
        ProbeLoom x = Kit.loomOf(1, 1, Kit.bytes(3, 0, 43, 5, 0, 255, 3, 0, 22, -8, 3, 0, 42));
        int[][] cases = {{1, 1}, {59, 59}, {60, 60}, {61, 60}, {500, 60}, {2, 2}};
        for (int manner = 0; manner <= 2; manner++) {
            for (int[] c : cases) {
                x.run(manner, 0, c[0], 0, 3000);
                Kit.due(c[0] + " marks", x.told(manner, 3), c[1]);
            }
            x.run(manner, 0, 2, 0, 1);
            Kit.due("none", x.told(manner, 3), 0);
        }
    }

    private static void toldRecords() {
        // A PASS each time round: a in all.
        ProbeLoom x = Kit.loomOf(1, 1, Kit.bytes(5, 0, 255, 3, 0, 22, -5, 1, 3, 42));
        x.probe(0, 0, 0, 0, 0);
        x.weave(0);
        int[] many = {1, 399, 400, 401, 999, 2};
        for (int n : many) {
            for (int manner = 0; manner <= 2; manner++) {
                x.run(manner, 0, n, 0, 3000);
                Kit.due(n + " in MANNER " + manner, x.told(manner, 4), manner == 0 ? 0 : n);
            }
        }
    }

    private static void toldRows() {
        ProbeLoom x = Kit.loomOf(2, 2, Kit.bytes(3, 1, 36, 7, 5, 0, 255, 3, 0, 22, -9, 1, 6, 42));
        int[][] cases = {{1, 0, 1}, {29, 50, 29}, {30, 50, 30}, {31, 50, 30}, {3, 51, 0}, {3, -1, 0}, {2, 1, 2}};
        for (int manner = 0; manner <= 2; manner++) {
            for (int[] c : cases) {
                x.run(manner, 0, c[0], c[1], 3000);
                Kit.due(c[0] + " ROWS of " + c[1], x.told(manner, 5), c[2]);
            }
            x.run(manner, 0, 5, 1, 1);
            Kit.due("none by LIMIT", x.told(manner, 5), 0);
        }
    }

    private static void toldWhere() {
        // 0 throws a at 1 + 2; 1 calls it at 3; 2 calls 1 and catches 9, then throws 7 at 6.
        ProbeLoom x = Kit.loomOf(1, 1, Kit.bytes(0, 3, 0, 41));
        Kit.make(x, 1, 1, Kit.bytes(0, 3, 0, 40, 0, 42));
        Kit.make(x, 1, 1, Kit.bytes(3, 0, 40, 1, 42, 7, 1, 7, 41), new int[] {2, 4, 5, 9});
        for (int m = 0; m < 3; m++) {
            x.probe(3, m, 0, 0, 0);
        }
        for (int round = 0; round < 2; round++) {
            for (int manner = 0; manner <= 2; manner++) {
                x.run(manner, 2, 8, 0, 99);
                Kit.due("thrown first at", x.told(manner, 6), 3);
                Kit.due("thrown first in", x.told(manner, 7), 0);
                x.run(manner, 2, 9, 0, 99);
                Kit.due("another was caught: at", x.told(manner, 6), 8);
                Kit.due("another was caught: in", x.told(manner, 7), 2);
                x.run(manner, 2, 9, 0, 3);
                Kit.due("LIMIT: at", x.told(manner, 6), -1);
                Kit.due("LIMIT: in", x.told(manner, 7), -1);
            }
            // The second round is woven: it is the place in the CODE all the same.
            for (int m = 0; m < 3; m++) {
                x.weave(m);
            }
        }
        ProbeLoom y = Kit.loomOf(1, 1, Kit.bytes(3, 0, 21, 5, 3, 0, 42, 1, 0, 41));
        for (int manner = 0; manner <= 2; manner++) {
            y.run(manner, 0, 0, 0, 99);
            Kit.due("thrown", y.told(manner, 6), 9);
            y.run(manner, 0, 1, 0, 99);
            Kit.due("answered: at", y.told(manner, 6), -1);
            Kit.due("answered: in", y.told(manner, 7), -1);
        }
        thrownAtZero();
    }

    private static void thrownAtZero() {
        ProbeLoom x = Kit.loomOf(0, 0, Kit.bytes(40, 0, 42));
        Kit.dueEnd("105", x, 0, Kit.ab(0, 0, 99), 1, 105);
        Kit.due("at place 0", x.told(0, 6), 0);
        Kit.due("in METHOD 0", x.told(0, 7), 0);
        ProbeLoom six = new ProbeLoom();
        for (int m = 0; m < 6; m++) {
            Kit.make(six, 0, 0, Kit.bytes(1, 5, 41));
        }
        Kit.dueEnd("METHOD 5", six, 5, Kit.ab(0, 0, 9), 1, 5);
        Kit.due("in METHOD 5", six.told(2, 7), 5);
    }

    private static void toldFrames() {
        ProbeLoom x = Kit.loomOf(1, 1, Kit.bytes(3, 0, 22, 5, 1, 0, 42, 3, 0, 1, 255, 9, 40, 0, 42));
        int[][] cases = {{11, 12}, {0, 1}, {1, 2}, {10, 11}, {12, 12}, {2000, 12}, {3, 4}};
        for (int manner = 0; manner <= 2; manner++) {
            for (int[] c : cases) {
                x.run(manner, 0, c[0], 0, 3000);
                Kit.due(c[0] + " calls", x.told(manner, 8), c[1]);
            }
            x.run(manner, 0, 5, 0, 1);
            Kit.due("LIMIT ahead of any call", x.told(manner, 8), 1);
        }
    }

    private static void toldWithout() {
        ProbeLoom x = three();
        int[] want = {-1, 0, 0, 0, 0, 0, -1, -1, 0};
        for (int ran = 0; ran <= 2; ran++) {
            for (int manner = ran; manner <= 2; manner++) {
                for (int what = 0; what <= 8; what++) {
                    Kit.due("MANNER " + manner + ", what " + what, x.told(manner, what), want[what]);
                }
            }
            // The RUN in one MANNER is none in those behind it.
            x.run(ran, 0, -5, 0, 99);
        }
        Kit.due("there was one", x.told(2, 6), 11);
    }

    private static void toldBad() {
        ProbeLoom x = three();
        for (int round = 0; round < 2; round++) {
            for (int manner : NO_MANNERS) {
                for (int what = 0; what <= 8; what += 4) {
                    Kit.due("MANNER " + manner, x.told(manner, what), -2);
                }
            }
            int[] whats = {-1, 9, 10, MIN, MAX};
            for (int what : whats) {
                for (int manner = 0; manner <= 2; manner++) {
                    Kit.due("what " + what, x.told(manner, what), -2);
                }
                Kit.due("neither", x.told(3, what), -2);
            }
            x.run(round, 0, 1, 0, 99);
        }
    }

    private static void mark() {
        ProbeLoom x = Kit.loomOf(1, 1, Kit.bytes(3, 0, 43, 5, 0, 255, 3, 0, 22, -8, 3, 0, 42));
        int[] none = {-1, 60, 61, 400, MIN, MAX};
        for (int manner = 0; manner <= 2; manner++) {
            Kit.due("no RUN", x.mark(manner, 0), 0);
            x.run(manner, 0, 61, 0, 3000);
            Kit.due("MARK 0", x.mark(manner, 0), 61);
            Kit.due("MARK 59", x.mark(manner, 59), 2);
            for (int i : none) {
                Kit.due("MARK " + i, x.mark(manner, i), 0);
            }
            x.run(manner, 0, 2 + manner, 0, 3000);
            Kit.due("the last of the latest", x.mark(manner, 1 + manner), 1);
            Kit.due("none behind it", x.mark(manner, 2 + manner), 0);
            Kit.due("none of an earlier RUN", x.mark(manner, 59), 0);
        }
        for (int manner = 0; manner <= 2; manner++) {
            Kit.due("each MANNER has its own", x.mark(manner, 0), 2 + manner);
        }
        for (int manner : NO_MANNERS) {
            Kit.due("MANNER " + manner, x.mark(manner, 0), 0);
        }
    }

    private static void field() {
        // FIELD 0 gets a, FIELD 7 gets b; then it throws a.
        ProbeLoom x = Kit.loomOf(2, 2, Kit.bytes(3, 0, 35, 0, 3, 1, 35, 7, 3, 0, 41));
        int[] none = {-1, 8, 9, 60, MIN, MAX};
        for (int manner = 0; manner <= 2; manner++) {
            Kit.due("no RUN", x.field(manner, 0), 0);
            x.run(manner, 0, 1 + manner, MIN, 99);
            Kit.due("FIELD 0 of what was thrown", x.field(manner, 0), 1 + manner);
            Kit.due("FIELD 7", x.field(manner, 7), MIN);
            for (int f = 1; f < 7; f++) {
                Kit.due("FIELD " + f, x.field(manner, f), 0);
            }
            for (int f : none) {
                Kit.due("FIELD " + f, x.field(manner, f), 0);
            }
        }
        x.run(1, 0, 70, 71, 3);
        Kit.due("FIELD 0 by LIMIT", x.field(1, 0), 70);
        Kit.due("FIELD 7 ahead of its put", x.field(1, 7), 0);
        Kit.due("MANNER 0 has its own", x.field(0, 0), 1);
        Kit.due("MANNER 2 has its own", x.field(2, 7), MIN);
        for (int manner : NO_MANNERS) {
            Kit.due("MANNER " + manner, x.field(manner, 0), 0);
        }
    }

    /** Twice round a: a PASS and a REPLACE by x each time. */
    private static ProbeLoom watched() {
        ProbeLoom x = Kit.loomOf(1, 1, Kit.bytes(5, 0, 255, 1, 9, 43, 3, 0, 22, -8, 1, 3, 42));
        x.probe(7, 0, 3, 8, 0);
        x.probe(0, 0, 3, 0, 0);
        x.weave(0);
        return x;
    }

    private static void record() {
        ProbeLoom x = watched();
        int[] none = {-1, 400, 401, 1000, MIN, MAX};
        int[] whats = {-1, 2, 3, MIN, MAX};
        for (int manner = 1; manner <= 2; manner++) {
            Kit.due("no RUN", x.record(manner, 0, 0) | x.record(manner, 0, 1), 0);
            x.run(manner, 0, 300, 0, 3000);
            Kit.due("PROBE of RECORD 0", x.record(manner, 0, 0), 1);
            Kit.due("PROBE of RECORD 1", x.record(manner, 1, 0), 0);
            Kit.due("INT of RECORD 1", x.record(manner, 1, 1), 9);
            Kit.due("PROBE of RECORD 398", x.record(manner, 398, 0), 1);
            Kit.due("INT of RECORD 399", x.record(manner, 399, 1), 9);
            for (int i : none) {
                Kit.due("RECORD " + i, x.record(manner, i, 0) | x.record(manner, i, 1), 0);
            }
            for (int what : whats) {
                Kit.due("what " + what, x.record(manner, 1, what), 0);
                Kit.due("what " + what + " of the last", x.record(manner, 399, what), 0);
            }
            x.run(manner, 0, 1, 0, 3000);
            Kit.due("RECORD 1 is the last", x.record(manner, 1, 1), 9);
            Kit.due("none of an earlier RUN", x.record(manner, 2, 0) | x.record(manner, 3, 1), 0);
        }
        x.run(0, 0, 2, 0, 99);
        Kit.due("plain has none", x.record(0, 0, 0) | x.record(0, 1, 1), 0);
        for (int manner : NO_MANNERS) {
            Kit.due("MANNER " + manner, x.record(manner, 0, 0) | x.record(manner, 1, 1), 0);
        }
    }

    private static void records() {
        ProbeLoom x = watched();
        int[] none = {-1, 2, 23, 24, MIN, MAX};
        int[][] cases = {{1, 1}, {199, 199}, {200, 200}, {201, 200}, {3, 3}};
        for (int manner = 1; manner <= 2; manner++) {
            Kit.due("no RUN", x.records(manner, 0), 0);
            for (int[] c : cases) {
                x.run(manner, 0, c[0], 0, 3000);
                Kit.due("of PROBE 0, " + c[0] + " times", x.records(manner, 0), c[1]);
                Kit.due("of PROBE 1, " + c[0] + " times", x.records(manner, 1), c[1]);
                Kit.due("in all", x.told(manner, 4), 2 * c[0]);
            }
            for (int p : none) {
                Kit.due("of PROBE " + p, x.records(manner, p), 0);
            }
        }
        x.run(0, 0, 3, 0, 99);
        Kit.due("plain has none", x.records(0, 0), 0);
        for (int manner : NO_MANNERS) {
            Kit.due("MANNER " + manner, x.records(manner, 0), 0);
        }
        // An odd one more: PROBE 1 comes first, so that 400 of 401 and more are 200 of each.
        x.run(1, 0, 200, 0, 3000);
        Kit.due("the latest alone", x.records(1, 0), 200);
    }

    private static void differ() {
        // RECORDS of a: the answer of load 0 by LEAVE, behind one PASS.
        ProbeLoom x = Kit.loomOf(1, 1, Kit.bytes(3, 0, 22, 5, 1, 0, 42, 3, 0, 42));
        Kit.due("no RUNS", x.differ(), -1);
        x.probe(0, 0, 0, 0, 0);
        x.probe(3, 0, 0, 0, 0);
        x.weave(0);
        x.run(2, 0, 5, 0, 99);
        Kit.due("only 2 ran", x.differ(), 0);
        x.run(1, 0, 5, 0, 99);
        Kit.due("alike", x.differ(), -1);
        x.run(1, 0, 6, 0, 99);
        Kit.due("another INT", x.differ(), 1);
        x.run(1, 0, 5, 0, 1);
        Kit.due("one that only 2 kept", x.differ(), 1);
        x.run(2, 0, 5, 0, 1);
        Kit.due("alike again", x.differ(), -1);
        x.run(1, 0, 5, 0, 99);
        Kit.due("one that only 1 kept", x.differ(), 1);
        x.run(0, 0, 9, 0, 99);
        Kit.due("MANNER 0 is none of them", x.differ(), 1);
        x.run(2, 0, 5, 0, 99);
        Kit.due("answers do not matter, RECORDS do", x.differ(), -1);
        x.clear();
        x.probe(3, 0, 0, 0, 0);
        x.weave(0);
        x.run(1, 0, 7, 0, 99);
        Kit.due("the first differs", x.differ(), 0);
        differAtTheMost();
    }

    /** Beyond the 400th nothing is kept, so that nothing differs; the 400th does. */
    private static void differAtTheMost() {
        ProbeLoom x = Kit.loomOf(1, 1, Kit.bytes(5, 0, 255, 3, 0, 22, -5, 1, 3, 42));
        x.probe(0, 0, 0, 0, 0);
        x.weave(0);
        int[][] cases = {{398, 399, 398}, {399, 400, 399}, {400, 399, 399}, {400, 401, -1}, {401, 400, -1}, {600, 401, -1},
            {400, 400, -1}, {1, 600, 1}};
        for (int[] c : cases) {
            x.run(1, 0, c[0], 0, 3000);
            x.run(2, 0, c[1], 0, 3000);
            Kit.due(c[0] + " and " + c[1], x.differ(), c[2]);
        }
        // Only the PROBE differs, in the first: its INT is the same.
        ProbeLoom y = Kit.loomOf(0, 0, Kit.bytes(1, 5, 42));
        y.probe(0, 0, 0, 0, 0);
        y.weave(0);
        y.run(1, 0, 0, 0, 9);
        y.clear();
        y.probe(0, 0, 2, 0, 0);
        y.probe(0, 0, 0, 0, 0);
        y.weave(0);
        y.run(2, 0, 0, 0, 9);
        Kit.due("another PROBE", y.differ(), 0);
    }

    private static void count() {
        ProbeLoom x = new ProbeLoom();
        for (int m = 0; m < 6; m++) {
            Kit.due("METHODS", x.count(0), m);
            Kit.make(x, 0, 0, Kit.bytes(1, 5, 42));
        }
        Kit.make(x, 0, 0, Kit.bytes(1, 5, 42));
        Kit.due("six", x.count(0), 6);
        for (int p = 0; p < 24; p++) {
            Kit.due("PROBES", x.count(1), p);
            x.probe(0, 0, 0, 0, 0);
        }
        x.probe(0, 0, 0, 0, 0);
        Kit.due("24", x.count(1), 24);
        for (int i = 0; i <= 30; i++) {
            Kit.due("bytes", x.count(2), 20 * i);
            x.feed(0, 0, 0, 0, 0);
        }
        Kit.due("600", x.count(2), 600);
        for (int r = 0; r < 9; r++) {
            Kit.due("RUNS", x.count(3), r);
            x.run(r % 3, 0, 0, 0, 1 + r % 2);
            x.run(3, 0, 0, 0, 9);
        }
        int[] whats = {-1, 4, 5, MIN, MAX};
        for (int what : whats) {
            Kit.due("what " + what, x.count(what), -2);
        }
        x.cut(7);
        x.clear();
        Kit.due("bytes behind cut", x.count(2), 593);
        Kit.due("PROBES behind clear", x.count(1), 0);
        Kit.due("RUNS stay", x.count(3), 9);
    }
}
