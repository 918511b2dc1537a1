/** '2 A RUN'. */
final class RunEdges {
    /** Calls itself with a - 1 until that is 0; answers how many calls came back. */
    private static final int[] DOWN = {3, 0, 22, 5, 1, 0, 42, 3, 0, 1, 255, 9, 40, 0, 1, 1, 9, 42};

    private RunEdges() {
    }

    static void all(Edges edges) {
        edges.chapter("======== 2");
        edges.test("A RUN of a METHOD with ARGUMENTS a, b, and 0 for others (as many as it has)",
                RunEdges::arguments);
        edges.test("FIELDS all 0, no ROWS, no MARKS.", RunEdges::anew);
        edges.free("LOCALS begin as 0.", "TYPES let no METHOD load what was not stored: it is never seen");
        edges.test("An INSTRUCTION that is done, or that throws, is a STEP;", RunEdges::steps);
        edges.test("where one more than the LIMIT would begin (PROBES ahead of it have passed) the RUN ends by LIMIT.",
                RunEdges::limit);
        edges.test("FRAMES: 12; a call that would make one more throws 105.", RunEdges::frames);
        edges.test("mark: MARKS get it, 60 at most; others are not kept.", RunEdges::marks);
        edges.test("What is thrown at an INSTRUCTION goes to the first HANDLER in order with FROM <= place < TO that "
                + "has its KIND, or 0:", RunEdges::whichHandler);
        edges.test("the STACK is just the KIND, and it goes on at TARGET.", RunEdges::justTheKind);
        edges.test("If there is none the FRAME ends, and it is thrown at the call that made it.",
                RunEdges::thrownAtTheCall);
        edges.test("If no FRAME is left the RUN ends THROWN.", RunEdges::noFrameLeft);
        edges.test("What throws leaves nothing changed.", RunEdges::nothingChanged);
    }

    private static void arguments() {
        for (int n = 0; n <= 4; n++) {
            int[] marks = new int[0];
            for (int i = 0; i < n; i++) {
                marks = Kit.join(marks, Kit.bytes(3, i, 43));
            }
            ProbeLoom x = Kit.loomOf(n, 12, Kit.join(marks, Kit.bytes(1, 1, 42)));
            int[] given = {Integer.MIN_VALUE, Integer.MAX_VALUE, 0, 0};
            for (int manner = 0; manner <= 2; manner++) {
                Kit.due("run", x.run(manner, 0, given[0], given[1], 99), 0);
                Kit.due("as many as it has", x.told(manner, 3), n);
                for (int i = 0; i < n; i++) {
                    Kit.due("ARGUMENT " + i + " of " + n, x.mark(manner, i), given[i]);
                }
            }
        }
    }

    private static void anew() {
        // Marks FIELD 7, puts a there, makes a ROW, marks its INT 0 and lays a there.
        ProbeLoom x = Kit.loomOf(1, 2, Kit.bytes(34, 7, 43, 3, 0, 35, 7, 1, 5, 36, 4, 1, 3, 1, 1, 0, 38, 43,
                3, 1, 1, 0, 3, 0, 39, 1, 1, 42));
        for (int round = 0; round < 3; round++) {
            for (int manner = 0; manner <= 2; manner++) {
                x.run(manner, 0, 70 + round, 0, 99);
                Kit.due("FIELD 7 was 0", x.mark(manner, 0), 0);
                Kit.due("INT 0 was 0", x.mark(manner, 1), 0);
                Kit.due("MARKS of this RUN alone", x.told(manner, 3), 2);
                Kit.due("ROWS of this RUN alone", x.told(manner, 5), 1);
                Kit.due("FIELD 7", x.field(manner, 7), 70 + round);
            }
        }
        // A RUN that ends ahead of them has none.
        x.run(0, 0, 70, 0, 1);
        Kit.due("no MARKS", x.told(0, 3), 0);
        Kit.due("no MARK", x.mark(0, 0), 0);
        Kit.due("no ROWS", x.told(0, 5), 0);
        Kit.due("FIELD 7 is 0", x.field(0, 7), 0);
    }

    private static void steps() {
        ProbeLoom done = Kit.loomOf(0, 0, Kit.bytes(0, 0, 1, 1, 42));
        Kit.dueEnd("four are done", done, 0, Kit.ab(0, 0, 99), 0, 1);
        Kit.due("the give is one", done.told(0, 2), 4);
        ProbeLoom thrown = Kit.loomOf(2, 2, Kit.bytes(3, 0, 3, 1, 12, 42, 42), new int[] {4, 5, 6, 101});
        Kit.dueEnd("div throws, is caught", thrown, 0, Kit.ab(1, 0, 99), 0, 101);
        Kit.due("what throws is one", thrown.told(0, 2), 4);
        ProbeLoom last = Kit.loomOf(1, 1, Kit.bytes(3, 0, 41));
        Kit.dueEnd("throw", last, 0, Kit.ab(1, 0, 99), 1, 1);
        Kit.due("what ends the RUN is one", last.told(0, 2), 2);
        // A call that throws 105 is one; so is a call whose FRAME ended by what was thrown, once.
        ProbeLoom deep = Kit.loomOf(0, 0, Kit.bytes(40, 0, 42));
        Kit.dueEnd("twelve calls", deep, 0, Kit.ab(0, 0, 99), 1, 105);
        Kit.due("twelve STEPS", deep.told(0, 2), 12);
    }

    private static void limit() {
        // 6 STEPS: push, put, push, mark, push, give.
        ProbeLoom x = Kit.loomOf(0, 0, Kit.bytes(1, 4, 35, 0, 1, 5, 43, 1, 6, 42));
        for (int limit = 1; limit <= 7; limit++) {
            for (int manner = 0; manner <= 2; manner++) {
                Kit.due("LIMIT " + limit, x.run(manner, 0, 0, 0, limit), limit < 6 ? 2 : 0);
                Kit.due("STEPS", x.told(manner, 2), Math.min(limit, 6));
                Kit.due("FIELD 0", x.field(manner, 0), limit >= 2 ? 4 : 0);
                Kit.due("MARKS", x.told(manner, 3), limit >= 4 ? 1 : 0);
            }
        }
        ProbeLoom round = Kit.loomOf(0, 0, Kit.bytes(20, 0));
        Kit.dueEnd("3000", round, 0, Kit.ab(0, 0, 3000), 2, 0);
        Kit.due("3000 STEPS", round.told(1, 2), 3000);
        // The last STEP may throw, and be caught: then the next would be one too many.
        ProbeLoom thrown = Kit.loomOf(0, 0, Kit.bytes(1, 4, 41, 42), new int[] {0, 3, 3, 0});
        Kit.dueEnd("thrown, then cut", thrown, 0, Kit.ab(0, 0, 2), 2, 0);
        Kit.dueEnd("just enough", thrown, 0, Kit.ab(0, 0, 3), 0, 4);
        ProbeLoom out = Kit.loomOf(0, 0, Kit.bytes(1, 4, 41));
        Kit.dueEnd("thrown at the last", out, 0, Kit.ab(0, 0, 2), 1, 4);
        limitBehindProbes();
    }

    private static void limitBehindProbes() {
        ProbeLoom x = Kit.loomOf(0, 0, Kit.bytes(1, 6, 35, 0, 1, 7, 42));
        x.probe(0, 0, 0, 0, 0);
        x.probe(0, 0, 2, 0, 0);
        x.probe(4, 0, 2, 0, 0);
        x.probe(0, 0, 4, 0, 0);
        x.probe(0, 0, 6, 0, 0);
        x.probe(3, 0, 0, 0, 0);
        x.weave(0);
        Kit.dueBoth("PASS has passed", x, 0, Kit.ab(0, 0, 1), Kit.ends(2, 0, 1), 0, 0, 1, 0);
        Kit.dueBoth("STORE was done", x, 0, Kit.ab(0, 0, 2), Kit.ends(2, 0, 2), 0, 0, 1, 0, 2, 0, 2, 6, 3, 0);
        Kit.dueBoth("LEAVE is ahead of the give", x, 0, Kit.ab(0, 0, 3), Kit.ends(2, 0, 3),
                0, 0, 1, 0, 2, 0, 2, 6, 3, 0, 4, 0, 5, 7);
        Kit.dueBoth("the give is the last STEP", x, 0, Kit.ab(0, 0, 4), Kit.ends(0, 7, 4),
                0, 0, 1, 0, 2, 0, 2, 6, 3, 0, 4, 0, 5, 7);
        ProbeLoom fault = Kit.loomOf(0, 0, Kit.bytes(1, 6, 42));
        fault.probe(6, 0, 2, 1, 44);
        fault.weave(0);
        Kit.dueBoth("a FAULT has passed", fault, 0, Kit.ab(0, 0, 1), Kit.ends(1, 44, 1));
    }

    private static void frames() {
        ProbeLoom x = Kit.loomOf(1, 1, DOWN);
        Kit.dueEnd("10 calls", x, 0, Kit.ab(10, 0, 3000), 0, 10);
        Kit.due("11 FRAMES", x.told(0, 8), 11);
        Kit.dueEnd("11 calls", x, 0, Kit.ab(11, 0, 3000), 0, 11);
        Kit.due("12 FRAMES", x.told(0, 8), 12);
        Kit.dueEnd("12 calls", x, 0, Kit.ab(12, 0, 3000), 1, 105);
        Kit.due("still 12 FRAMES", x.told(0, 8), 12);
        Kit.due("at the call", x.told(0, 6), 12);
        // The 12th catches it at its call, and all others come back.
        ProbeLoom caught = Kit.loomOf(1, 1, Kit.join(DOWN, Kit.bytes(42)), new int[] {12, 14, 18, 105});
        Kit.dueEnd("caught by the 12th", caught, 0, Kit.ab(12, 0, 3000), 0, 116);
        Kit.dueEnd("caught by the 12th of many", caught, 0, Kit.ab(1000, 0, 3000), 0, 116);
        // FRAMES that ended make room: 13 calls one behind the other.
        ProbeLoom flat = Kit.loomOf(0, 0, Kit.bytes(1, 1, 42));
        Kit.make(flat, 0, 0, Kit.join(Kit.times(13, 40, 0, 7), Kit.bytes(1, 6, 42)));
        Kit.dueEnd("13 calls in turn", flat, 1, Kit.ab(0, 0, 3000), 0, 6);
        Kit.due("2 FRAMES at a time", flat.told(0, 8), 2);
    }

    private static void marks() {
        // Marks a, a - 1 .. 1.
        ProbeLoom x = Kit.loomOf(1, 1, Kit.bytes(3, 0, 43, 5, 0, 255, 3, 0, 22, -8, 3, 0, 42));
        for (int many = 59; many <= 62; many++) {
            Kit.dueEnd(many + " marks", x, 0, Kit.ab(many, 0, 3000), 0, 0);
            for (int manner = 0; manner <= 2; manner++) {
                Kit.due("kept of " + many, x.told(manner, 3), Math.min(many, 60));
                Kit.due("the first", x.mark(manner, 0), many);
                Kit.due("the 59th", x.mark(manner, 58), many - 58);
                Kit.due("the 60th", x.mark(manner, 59), many < 60 ? 0 : many - 59);
                Kit.due("no 61st", x.mark(manner, 60), 0);
                Kit.due("it is a STEP all the same", x.told(manner, 2), 5 * many + 2);
            }
        }
    }

    private static void whichHandler() {
        // 0 load 0, 2 load 1, 4 div, 5 give; TARGETS 6 and 10 mark 1 and 2, and give the KIND.
        int[] code = {3, 0, 3, 1, 12, 42, 1, 1, 43, 42, 1, 2, 43, 42};
        int[][][] cases = {
            {{0, 6, 6, 101}, {0, 6, 10, 101}, {1}},
            {{0, 6, 6, 0}, {0, 6, 10, 101}, {1}},
            {{0, 6, 6, 100}, {0, 6, 10, 101}, {2}},
            {{0, 6, 6, 102}, {0, 6, 10, 0}, {2}},
            {{4, 5, 6, 0}, {0, 6, 10, 0}, {1}},
            {{0, 4, 6, 0}, {0, 6, 10, 0}, {2}},
            {{5, 6, 6, 0}, {0, 6, 10, 0}, {2}},
            {{2, 5, 6, 0}, {0, 6, 10, 0}, {1}},
            {{4, 14, 6, 0}, {0, 6, 10, 0}, {1}},
            {{0, 4, 6, 0}, {5, 14, 10, 0}, {0}},
            {{0, 6, 6, 1}, {0, 6, 10, 99}, {0}}};
        for (int[][] c : cases) {
            ProbeLoom x = Kit.loomOf(2, 2, code, c[0], c[1]);
            String what = c[0][0] + ".." + c[0][1] + " " + c[0][3] + ", " + c[1][0] + ".." + c[1][1] + " " + c[1][3];
            Kit.dueEnd(what, x, 0, Kit.ab(1, 0, 99), c[2][0] == 0 ? 1 : 0, 101);
            Kit.due(what, x.mark(0, 0), c[2][0]);
        }
        // The eighth in order is looked at too.
        int[][] eight = new int[8][];
        for (int k = 0; k < 8; k++) {
            eight[k] = new int[] {0, 6, k < 7 ? 6 : 10, k < 7 ? k + 1 : 101};
        }
        ProbeLoom last = Kit.loomOf(2, 2, code, eight);
        Kit.dueEnd("the eighth", last, 0, Kit.ab(1, 0, 99), 0, 101);
        Kit.due("the eighth", last.mark(0, 0), 2);
        // What a TARGET throws is looked for anew, from the first HANDLER on.
        ProbeLoom again = Kit.loomOf(1, 1, Kit.bytes(3, 0, 41, 1, 1, 9, 41, 42), new int[] {0, 7, 7, 8},
                new int[] {0, 3, 3, 7});
        Kit.dueEnd("7, then 8", again, 0, Kit.ab(7, 0, 99), 0, 8);
    }

    private static void justTheKind() {
        // Ten on the STACK as it is thrown; at the TARGET there is room for nine more.
        ProbeLoom x = Kit.loomOf(0, 1, Kit.join(Kit.times(9, 1, 5), Kit.bytes(1, 33, 41), Kit.times(9, 1, 1),
                Kit.times(9, 9), Kit.bytes(42)), new int[] {0, 21, 21, 0});
        Kit.dueEnd("the KIND and nine", x, 0, Kit.ab(0, 0, 99), 0, 33 + 9);
        // LOCALS stay as they were at that INSTRUCTION.
        ProbeLoom y = Kit.loomOf(1, 2, Kit.bytes(1, 4, 4, 1, 5, 1, 3, 3, 0, 41, 3, 1, 9, 42), new int[] {4, 10, 10, 0});
        Kit.dueEnd("LOCALS stay", y, 0, Kit.ab(20, 0, 99), 0, 27);
        // A TARGET ahead of what throws is gone on at as well.
        ProbeLoom back = Kit.loomOf(1, 1, Kit.bytes(20, 3, 42, 3, 0, 41), new int[] {3, 6, 2, 0});
        Kit.dueEnd("a TARGET ahead", back, 0, Kit.ab(9, 0, 99), 0, 9);
        // So is one that throws itself, round and round.
        ProbeLoom round = Kit.loomOf(0, 0, Kit.bytes(1, 5, 41), new int[] {2, 3, 2, 0});
        Kit.dueEnd("its own TARGET", round, 0, Kit.ab(0, 0, 99), 2, 0);
        Kit.due("STEPS", round.told(0, 2), 99);
    }

    private static void thrownAtTheCall() {
        // 0 throws a; 1 calls it at 2, 2 calls 1 at 5; handlers of 2 at its call, just around it.
        ProbeLoom x = Kit.loomOf(1, 1, Kit.bytes(3, 0, 41));
        Kit.make(x, 1, 1, Kit.bytes(3, 0, 40, 0, 42, 42), new int[] {0, 2, 5, 0}, new int[] {4, 6, 5, 0});
        Kit.make(x, 1, 1, Kit.bytes(1, 9, 43, 3, 0, 40, 1, 42, 1, 1, 9, 42), new int[] {5, 7, 8, 31});
        Kit.dueEnd("caught at the call", x, 2, Kit.ab(31, 0, 99), 0, 32);
        Kit.dueEnd("not of its KIND", x, 2, Kit.ab(32, 0, 99), 1, 32);
        Kit.dueEnd("none at that place", x, 1, Kit.ab(31, 0, 99), 1, 31);
        // The caller's STACK is gone as well, its LOCALS are not.
        Kit.make(x, 1, 2, Kit.bytes(1, 6, 4, 1, 1, 50, 3, 0, 40, 0, 9, 42, 3, 1, 9, 42), new int[] {8, 10, 12, 0});
        Kit.dueEnd("just the KIND in the caller", x, 3, Kit.ab(31, 0, 99), 0, 37);
        // Out of 12 FRAMES, to the first.
        ProbeLoom deep = Kit.loomOf(1, 1, Kit.bytes(3, 0, 22, 5, 1, 9, 41, 3, 0, 1, 255, 9, 40, 0, 42));
        Kit.make(deep, 1, 1, Kit.bytes(3, 0, 40, 0, 42, 42), new int[] {2, 4, 5, 9});
        Kit.dueEnd("out of 11", deep, 1, Kit.ab(10, 0, 3000), 0, 9);
        Kit.due("12 FRAMES", deep.told(0, 8), 12);
    }

    private static void noFrameLeft() {
        ProbeLoom x = Kit.loomOf(1, 1, Kit.bytes(3, 0, 22, 5, 1, 9, 41, 3, 0, 1, 255, 9, 40, 0, 42));
        for (int calls = 0; calls <= 11; calls++) {
            for (int manner = 0; manner <= 2; manner++) {
                Kit.due("run", x.run(manner, 0, calls, 0, 3000), 1);
                Kit.due("THROWN", x.told(manner, 0), 1);
                Kit.due("KIND", x.told(manner, 1), 9);
                Kit.due("FRAMES", x.told(manner, 8), calls + 1);
                Kit.due("where it was thrown first", x.told(manner, 6), 6);
            }
        }
    }

    private static void nothingChanged() {
        // lay that throws: neither the ROW nor its neighbour changes.
        int[] rows = {1, 2, 36, 4, 1, 1, 2, 36, 4, 2};
        ProbeLoom lay = Kit.loomOf(1, 3, Kit.join(rows, Kit.bytes(3, 1, 3, 0, 1, 77, 39, 1, 0, 42, 7),
                Kit.bytes(3, 1, 1, 0, 38, 3, 1, 1, 1, 38, 15, 3, 2, 1, 0, 38, 15, 3, 2, 1, 1, 38, 15, 42)),
                new int[] {10, 17, 20, 102});
        int[] none = {-1, 2, -3, 3, 50, Integer.MAX_VALUE, Integer.MIN_VALUE};
        for (int i : none) {
            Kit.dueEnd("lay at " + i, lay, 0, Kit.ab(i, 0, 99), 0, 0);
            for (int f = 0; f < 8; f++) {
                Kit.due("FIELD " + f, lay.field(0, f), 0);
            }
        }
        // row that throws is none of the 30.
        ProbeLoom row = Kit.loomOf(1, 1, Kit.join(Kit.bytes(1, 51, 36, 37, 7), Kit.times(30, 1, 1, 36, 7),
                Kit.bytes(1, 6, 42)), new int[] {2, 3, 4, 103});
        Kit.dueEnd("30 behind one that threw", row, 0, Kit.ab(0, 0, 3000), 0, 6);
        Kit.due("30 ROWS", row.told(0, 5), 30);
        // A call that throws 105 makes no FRAME and passes nothing to one.
        ProbeLoom call = Kit.loomOf(1, 1, Kit.join(DOWN, Kit.bytes(7, 3, 0, 42)), new int[] {12, 14, 18, 105});
        Kit.dueEnd("LOCALS at the call", call, 0, Kit.ab(12, 0, 3000), 0, 12);
        // div that throws: LOCALS, FIELDS and MARKS are as they were.
        ProbeLoom div = Kit.loomOf(1, 1, Kit.bytes(1, 5, 35, 3, 1, 6, 43, 1, 1, 1, 0, 12, 42, 7, 3, 0, 42),
                new int[] {11, 12, 13, 0});
        Kit.dueEnd("LOCAL 0", div, 0, Kit.ab(8, 0, 99), 0, 8);
        Kit.due("FIELD 3", div.field(0, 3), 5);
        Kit.due("MARKS", div.told(0, 3), 1);
    }
}
