/** '3 PROBES': what each SORT records, and in which order. */
final class ProbeEdges {
    private static final int MIN = Integer.MIN_VALUE;
    private static final int MAX = Integer.MAX_VALUE;
    /** a times round: 0 inc 0 by -1, 3 load 0, 5 jump to 0 if not 0, 7 push 3, 9 give. */
    private static final int[] ROUND = {5, 0, 255, 3, 0, 22, -5, 1, 3, 42};

    private ProbeEdges() {
    }

    static void all(Edges edges) {
        edges.chapter("======== 3");
        edges.test("PROBES, numbered as they come, 24 at most in all: a SORT, a METHOD, the place of an INSTRUCTION's "
                + "OP in its CODE, two INTS x, y.", ProbeEdges::most24);
        edges.test("They make RECORDS (the PROBE, an INT), 400 at most of a RUN; others are counted alone:",
                ProbeEdges::records400);
        edges.test("0 PASS: each time ahead of it: 0.", ProbeEdges::pass);
        edges.test("1 SIDE, of 21 .. 32, 85 .. 96: behind it: 1 if it jumped, else 0.", ProbeEdges::side);
        edges.test("2 ENTER, at place 0: each time a FRAME of the METHOD begins, for each ARGUMENT it; without any: 0.",
                ProbeEdges::enter);
        edges.test("3 LEAVE, at place 0: each time one ends by give the answer; by what is thrown: the KIND's "
                + "negative.", ProbeEdges::leave);
        edges.test("4 STORE, of put, lay: behind it, if it was done: what was there, then what is.",
                ProbeEdges::store);
        edges.test("5 CAUGHT, of an INSTRUCTION that is a TARGET: as something thrown comes there: the KIND.",
                ProbeEdges::caught);
        edges.test("6 FAULT: ahead of it, at its x-th passing in the RUN (x 1 .. 1000): KIND y (1 .. 100) is thrown "
                + "at it, it is not done.", ProbeEdges::fault);
        edges.test("7 REPLACE, of 1, 2, 9 .. 19, 34, 37, 38, 40: behind it, if it was done, its INT becomes x: the "
                + "one on top, and what was there is the RECORD.", ProbeEdges::replace);
        order(edges);
    }

    private static void order(Edges edges) {
        edges.test("Of PROBES at one INSTRUCTION those ahead come in this order: PASS and FAULT by their numbers "
                + "(behind a FAULT that throws nothing);", ProbeEdges::orderAhead);
        edges.test("those behind it by their numbers (RECORDS of a REPLACE: what was there then).",
                ProbeEdges::orderBehind);
        edges.test("Of ENTER, LEAVE, CAUGHT by their numbers.", ProbeEdges::orderOfOthers);
        edges.test("A FAULT's passing counts as it is come to.", ProbeEdges::passingCounts);
        edges.test("ENTER is ahead of all at place 0; a jump there passes no ENTER.", ProbeEdges::enterFirst);
        edges.test("LEAVE of give is ahead of the give, behind PASS and FAULT at it;", ProbeEdges::leaveOfGive);
        edges.test("LEAVE of what is thrown is as the FRAME ends;", ProbeEdges::leaveOfThrown);
        edges.test("CAUGHT is ahead of all at its TARGET.", ProbeEdges::caughtFirst);
        edges.test("A FAULT makes no STEP.", ProbeEdges::faultIsNoStep);
        edges.test("PROBES do not count as STEPS.", ProbeEdges::probesAreNoSteps);
    }

    private static void most24() {
        ProbeLoom x = Kit.loomOf(0, 0, Kit.bytes(1, 1, 42));
        Kit.make(x, 0, 0, Kit.bytes(1, 1, 40, 0, 9, 42));
        for (int p = 0; p < 24; p++) {
            Kit.due("number", x.probe(p % 3 == 0 ? 7 : 0, p % 2, 0, p, 0), p);
        }
        Kit.due("24", x.count(1), 24);
        Kit.due("no 25th in METHOD 0", x.probe(0, 0, 0, 0, 0), -3);
        Kit.due("no 25th in METHOD 1", x.probe(0, 1, 2, 0, 0), -3);
        x.weave(0);
        x.weave(1);
        x.run(1, 1, 0, 0, 99);
        x.run(2, 1, 0, 0, 99);
        for (int p = 0; p < 24; p++) {
            Kit.due("PROBE " + p + ", woven", x.records(1, p), 1);
            Kit.due("PROBE " + p + ", watched", x.records(2, p), 1);
        }
        Kit.due("clear", x.clear(), 24);
        Kit.due("from 0 again", x.probe(0, 0, 2, 0, 0), 0);
        Kit.due("no place within an INSTRUCTION", x.probe(0, 1, 1, 0, 0), -2);
        Kit.due("place of the last OP", x.probe(0, 1, 5, 0, 0), 1);
        int[][] xys = {{0, 0}, {1, 9}, {2, 100}, {MIN, MAX}, {-1, -1}};
        for (int[] xy : xys) {
            dueWhatever(xy[0], xy[1]);
        }
    }

    /** x and y may be any INTS where neither FAULT nor REPLACE looks at them, and say nothing. */
    private static void dueWhatever(int anyX, int anyY) {
        // 0 load, 2 put, 4 load, 6 jump if 0, 8 load, 10 throw, 11 give
        ProbeLoom x = Kit.loomOf(1, 1, Kit.bytes(3, 0, 35, 0, 3, 0, 21, 2, 3, 0, 41, 42), new int[] {8, 11, 11, 9});
        int[][] probes = {{0, 0}, {1, 6}, {2, 0}, {3, 0}, {4, 2}, {5, 11}};
        for (int[] p : probes) {
            Kit.due("x " + anyX + ", y " + anyY, x.probe(p[0], 0, p[1], anyX, anyY), p[0]);
        }
        x.weave(0);
        Kit.dueBoth("caught", x, 0, Kit.ab(9, 0, 99), Kit.ends(0, 9, 7), 2, 9, 0, 0, 4, 0, 4, 9, 1, 0, 5, 9, 3, 9);
        Kit.dueBoth("left", x, 0, Kit.ab(8, 0, 99), Kit.ends(1, 8, 6), 2, 8, 0, 0, 4, 0, 4, 8, 1, 0, 3, -8);
    }

    private static void records400() {
        // One RECORD each time round, and one behind: a + 1.
        ProbeLoom x = Kit.loomOf(1, 1, ROUND);
        x.probe(0, 0, 0, 0, 0);
        x.probe(7, 0, 7, 5, 0);
        x.weave(0);
        for (int many = 398; many <= 401; many++) {
            for (int manner = 1; manner <= 2; manner++) {
                x.run(manner, 0, many, 0, 3000);
                Kit.due("in all", x.told(manner, 4), many + 1);
                Kit.due("kept of 0", x.records(manner, 0), Math.min(many, 400));
                Kit.due("kept of 1", x.records(manner, 1), many < 400 ? 1 : 0);
                Kit.due("the 400th", x.record(manner, 399, 0), many == 399 ? 1 : 0);
                Kit.due("the 400th INT", x.record(manner, 399, 1), many == 399 ? 3 : 0);
                Kit.due("no 401st", x.record(manner, 400, 0) | x.record(manner, 400, 1), 0);
                Kit.due("what is not kept is done", x.told(manner, 1), 5);
            }
        }
        // Far more: 24 PROBES at a jump to itself.
        ProbeLoom far = Kit.loomOf(0, 0, Kit.bytes(20, 0));
        for (int p = 0; p < 24; p++) {
            far.probe(0, 0, 0, 0, 0);
        }
        far.weave(0);
        for (int manner = 1; manner <= 2; manner++) {
            Kit.due("run", far.run(manner, 0, 0, 0, 3000), 2);
            Kit.due("STEPS", far.told(manner, 2), 3000);
            Kit.due("72024 in all", far.told(manner, 4), 24 * 3001);
            Kit.due("kept of the first", far.records(manner, 15), 17);
            Kit.due("kept of the last", far.records(manner, 16), 16);
        }
    }

    private static void pass() {
        ProbeLoom x = Kit.loomOf(1, 1, ROUND);
        x.probe(0, 0, 9, 77, 88);
        x.probe(0, 0, 0, -1, MIN);
        x.weave(0);
        Kit.dueBoth("each time", x, 0, Kit.ab(3, 0, 99), Kit.ends(0, 3, 11), 1, 0, 1, 0, 1, 0, 0, 0);
        // Ahead of what throws, and not of what is not come to.
        ProbeLoom y = Kit.loomOf(1, 1, Kit.bytes(3, 0, 41, 0, 42));
        y.probe(0, 0, 2, 0, 0);
        y.probe(0, 0, 3, 0, 0);
        y.weave(0);
        Kit.dueBoth("ahead of a throw", y, 0, Kit.ab(9, 0, 99), Kit.ends(1, 9, 2), 0, 0);
    }

    private static void side() {
        int[] some = {MIN, -1, 0, 1, MAX};
        for (int op = 21; op <= 32; op++) {
            for (int wide = 0; wide <= 1; wide++) {
                int[] jump = wide == 0 ? Kit.bytes(op, 2) : Kit.bytes(op + 64, 0, 3);
                ProbeLoom x = Kit.loomOf(1, 1, Kit.join(op >= 27 ? Kit.bytes(3, 0, 1, 0) : Kit.bytes(3, 0, 0, 0), jump,
                        Kit.bytes(1, 8, 42)));
                Kit.due("SIDE of " + op, x.probe(1, 0, 4, 5, 6), 0);
                x.weave(0);
                for (int i : some) {
                    boolean[] jumps = {i == 0, i != 0, i < 0, i >= 0, i > 0, i <= 0};
                    int steps = op >= 27 ? 5 : 6;
                    Kit.dueBoth(op + " of " + i, x, 0, Kit.ab(i, 0, 99), Kit.ends(0, 8, steps),
                            0, jumps[(op - 21) % 6] ? 1 : 0);
                }
            }
        }
        ProbeLoom no = Kit.loomOf(1, 1, Kit.bytes(20, 2, 84, 0, 3, 1, 0, 33, 1, 0, 6, 0, 6, 1, 1, 42));
        Kit.due("of 20", no.probe(1, 0, 0, 0, 0), -2);
        Kit.due("of 84", no.probe(1, 0, 2, 0, 0), -2);
        Kit.due("of a table", no.probe(1, 0, 7, 0, 0), -2);
        // It jumps to itself, with the SIDE each time: the STACK holds what it takes.
        ProbeLoom round = Kit.loomOf(1, 1, ROUND);
        round.probe(1, 0, 5, 0, 0);
        round.weave(0);
        Kit.dueBoth("round", round, 0, Kit.ab(3, 0, 99), Kit.ends(0, 3, 11), 0, 1, 0, 1, 0, 0);
    }

    private static void enter() {
        for (int n = 0; n <= 4; n++) {
            ProbeLoom x = Kit.loomOf(n, n, Kit.bytes(1, 6, 42));
            x.probe(2, 0, 0, 0, 0);
            x.weave(0);
            int[][] want = {{0, 0}, {0, MIN}, {0, MIN, 0, MAX}, {0, MIN, 0, MAX, 0, 0}, {0, MIN, 0, MAX, 0, 0, 0, 0}};
            Kit.dueBoth(n + " ARGUMENTS", x, 0, Kit.ab(MIN, MAX, 99), Kit.ends(0, 6, 2), want[n]);
        }
        Kit.due("not at 2", Kit.loomOf(0, 0, Kit.bytes(1, 6, 42)).probe(2, 0, 2, 0, 0), -2);
        // Each FRAME of the METHOD, and of it alone.
        ProbeLoom deep = Kit.loomOf(1, 1, Kit.bytes(3, 0, 22, 5, 1, 0, 42, 3, 0, 1, 255, 9, 40, 0, 42));
        Kit.make(deep, 1, 1, Kit.bytes(3, 0, 40, 0, 42));
        deep.probe(2, 0, 0, 0, 0);
        deep.weave(0);
        deep.weave(1);
        Kit.dueBoth("three FRAMES", deep, 1, Kit.ab(2, 0, 99), Kit.ends(0, 0, 21), 0, 2, 0, 1, 0, 0);
    }

    private static void leave() {
        ProbeLoom x = Kit.loomOf(1, 1, Kit.bytes(3, 0, 23, 5, 3, 0, 42, 3, 0, 19, 41));
        x.probe(3, 0, 0, 0, 0);
        x.weave(0);
        Kit.dueBoth("by give", x, 0, Kit.ab(MAX, 0, 99), Kit.ends(0, MAX, 4), 0, MAX);
        Kit.dueBoth("by give of 0", x, 0, Kit.ab(0, 0, 99), Kit.ends(0, 0, 4), 0, 0);
        Kit.dueBoth("by KIND 1", x, 0, Kit.ab(-1, 0, 99), Kit.ends(1, 1, 5), 0, -1);
        Kit.dueBoth("by KIND 99", x, 0, Kit.ab(-99, 0, 99), Kit.ends(1, 99, 5), 0, -99);
        Kit.dueBoth("by KIND 100", x, 0, Kit.ab(MIN, 0, 99), Kit.ends(1, 100, 5), 0, -100);
        Kit.due("not at 2", x.probe(3, 0, 2, 0, 0), -2);
        Kit.due("not at the give", x.probe(3, 0, 6, 0, 0), -2);
        // Thrown and caught within: it ends once, by give.
        ProbeLoom in = Kit.loomOf(1, 1, Kit.bytes(3, 0, 41, 42), new int[] {0, 3, 3, 0});
        in.probe(3, 0, 0, 0, 0);
        in.weave(0);
        Kit.dueBoth("caught within", in, 0, Kit.ab(9, 0, 99), Kit.ends(0, 9, 3), 0, 9);
        // By 105, which a call of it throws; cut by LIMIT it does not end.
        ProbeLoom deep = Kit.loomOf(0, 0, Kit.bytes(40, 0, 42));
        deep.probe(3, 0, 0, 0, 0);
        deep.weave(0);
        int[] twelve = Kit.times(12, 0, -105);
        Kit.dueBoth("twelve end", deep, 0, Kit.ab(0, 0, 99), Kit.ends(1, 105, 12), twelve);
        Kit.dueBoth("cut", deep, 0, Kit.ab(0, 0, 5), Kit.ends(2, 0, 5));
    }

    private static void store() {
        // put: FIELD 7 gets a, then b.
        ProbeLoom put = Kit.loomOf(2, 2, Kit.bytes(3, 0, 35, 7, 3, 1, 35, 7, 34, 7, 42));
        put.probe(4, 0, 6, 0, 0);
        put.probe(4, 0, 2, 0, 0);
        put.weave(0);
        Kit.dueBoth("put", put, 0, Kit.ab(MIN, MAX, 99), Kit.ends(0, MAX, 6), 1, 0, 1, MIN, 0, MIN, 0, MAX);
        Kit.dueBoth("the same again", put, 0, Kit.ab(5, 5, 99), Kit.ends(0, 5, 6), 1, 0, 1, 5, 0, 5, 0, 5);
        Kit.dueBoth("cut ahead of the second", put, 0, Kit.ab(5, 6, 3), Kit.ends(2, 0, 3), 1, 0, 1, 5);
        // lay: INT a of the second of two ROWS of 3 gets b, then b + 1.
        ProbeLoom lay = Kit.loomOf(2, 3, Kit.bytes(1, 3, 36, 7, 1, 3, 36, 4, 2, 3, 2, 3, 0, 3, 1, 39,
                3, 2, 3, 0, 3, 1, 1, 1, 9, 39, 3, 1, 42));
        lay.probe(4, 0, 15, 0, 0);
        lay.probe(4, 0, 25, 0, 0);
        lay.weave(0);
        for (int i = 0; i < 3; i++) {
            Kit.dueBoth("INT " + i, lay, 0, Kit.ab(i, 50, 99), Kit.ends(0, 50, 18), 0, 0, 0, 50, 1, 50, 1, 51);
        }
        int[] none = {-1, 3, MIN, MAX};
        for (int i : none) {
            Kit.dueBoth("not done at " + i, lay, 0, Kit.ab(i, 50, 99), Kit.ends(1, 102, 10));
        }
        ProbeLoom no = Kit.loomOf(1, 1, Kit.bytes(34, 0, 4, 0, 1, 2, 36, 1, 0, 38, 42));
        Kit.due("of get", no.probe(4, 0, 0, 0, 0), -2);
        Kit.due("of store", no.probe(4, 0, 2, 0, 0), -2);
        Kit.due("of take", no.probe(4, 0, 9, 0, 0), -2);
    }

    private static void caught() {
        // 0 load 0, 2 throw, 3 give (TARGET of any), 4 nop, 5 nop
        ProbeLoom x = Kit.loomOf(1, 1, Kit.bytes(3, 0, 41, 42, 0, 0), new int[] {0, 3, 3, 0});
        Kit.due("a TARGET", x.probe(5, 0, 3, 0, 0), 0);
        int[] no = {0, 2, 4, 5};
        for (int place : no) {
            Kit.due("no TARGET", x.probe(5, 0, place, 0, 0), -2);
        }
        x.weave(0);
        Kit.dueBoth("KIND 1", x, 0, Kit.ab(1, 0, 99), Kit.ends(0, 1, 3), 0, 1);
        Kit.dueBoth("KIND 100", x, 0, Kit.ab(0, 0, 99), Kit.ends(0, 100, 3), 0, 100);
        // Come to by a jump it is not caught: 0 push 5, 2 load 0, 4 jump if 0 to 7, 6 throw, 7 give.
        ProbeLoom y = Kit.loomOf(1, 1, Kit.bytes(1, 5, 3, 0, 21, 3, 41, 42), new int[] {6, 7, 7, 0});
        y.probe(5, 0, 7, 0, 0);
        y.weave(0);
        Kit.dueBoth("by a jump", y, 0, Kit.ab(0, 0, 99), Kit.ends(0, 5, 4));
        Kit.dueBoth("by what is thrown", y, 0, Kit.ab(1, 0, 99), Kit.ends(0, 5, 5), 0, 5);
        // What a FRAME below throws, too; the first INSTRUCTION may be the TARGET.
        ProbeLoom own = Kit.loomOf(0, 0, Kit.bytes(40, 0, 42));
        Kit.make(own, 0, 0, Kit.bytes(20, 3, 42, 40, 0, 42), new int[] {3, 5, 2, 105});
        own.probe(5, 1, 2, 0, 0);
        own.weave(1);
        Kit.dueBoth("105 from below", own, 1, Kit.ab(0, 0, 99), Kit.ends(0, 105, 14), 0, 105);
    }

    private static void fault() {
        ProbeLoom x = Kit.loomOf(1, 1, Kit.join(ROUND, Kit.bytes(43, 1, 4, 42)), new int[] {0, 3, 10, 0});
        int[][] wrong = {{0, 1}, {-1, 1}, {1001, 1}, {MIN, 1}, {MAX, 1}, {1, 0}, {1, -1}, {1, 101}, {1, MIN}, {1, MAX}};
        for (int[] xy : wrong) {
            Kit.due("x " + xy[0] + ", y " + xy[1], x.probe(6, 0, 0, xy[0], xy[1]), -2);
        }
        int[][] well = {{1, 1}, {1, 100}, {2, 99}, {999, 7}};
        for (int[] xy : well) {
            x.clear();
            Kit.due("x " + xy[0] + ", y " + xy[1], x.probe(6, 0, 0, xy[0], xy[1]), 0);
            x.weave(0);
            // The passing ahead of the x-th are done: 3 STEPS each; then mark, push, give.
            Kit.dueBoth("at the x-th", x, 0, Kit.ab(1000, 0, 3000), Kit.ends(0, 4, 3 * (xy[0] - 1) + 3));
            Kit.due("KIND", x.mark(1, 0), xy[1]);
            int less = xy[0] - 1;
            if (less > 0 && 3 * less + 2 <= 3000) {
                Kit.dueBoth("one too few", x, 0, Kit.ab(less, 0, 3000), Kit.ends(0, 3, 3 * less + 2));
            }
        }
        fault1000();
    }

    /** The 1000th passing, within 3000 STEPS: 0 inc, 3 jump back. */
    private static void fault1000() {
        ProbeLoom x = Kit.loomOf(1, 1, Kit.bytes(5, 0, 1, 20, -3, 7, 3, 0, 42), new int[] {0, 3, 5, 0});
        Kit.due("x 1000", x.probe(6, 0, 0, 1000, 100), 0);
        x.weave(0);
        Kit.dueBoth("999 are done", x, 0, Kit.ab(0, 0, 3000), Kit.ends(0, 999, 2 * 999 + 3));
        Kit.dueBoth("counted anew in the RUN", x, 0, Kit.ab(0, 0, 3000), Kit.ends(0, 999, 2 * 999 + 3));
        Kit.dueBoth("LIMIT ahead of it", x, 0, Kit.ab(0, 0, 1997), Kit.ends(2, 0, 1997));
        // Thrown once, and never again: at passings 1001 and on it is done.
        ProbeLoom once = Kit.loomOf(1, 1, Kit.bytes(5, 0, 255, 3, 0, 22, -5, 3, 0, 42, 7, 20, -11),
                new int[] {0, 3, 10, 0});
        once.probe(6, 0, 0, 2, 9);
        once.weave(0);
        Kit.dueBoth("once", once, 0, Kit.ab(4, 0, 99), Kit.ends(0, 0, 3 * 4 + 2 + 2));
        // At it: told as its place, and it goes to the HANDLERS of its place.
        ProbeLoom at = Kit.loomOf(0, 0, Kit.bytes(1, 5, 42, 42), new int[] {0, 2, 3, 0});
        at.probe(6, 0, 2, 1, 50);
        at.weave(0);
        Kit.dueBoth("no HANDLER of its place", at, 0, Kit.ab(0, 0, 99), Kit.ends(1, 50, 1));
        Kit.due("place, woven", at.told(1, 6), 2);
        Kit.due("place, watched", at.told(2, 6), 2);
    }

    private static void replace() {
        // Each that can be, with what it answers for 7 and 2.
        int[][] codes = {{1, 7}, {2, 0, 0, 0, 7}, {34, 0}, {1, 7, 36, 37}, {1, 7, 36, 1, 6, 38}, {1, 7, 19},
            {1, 7, 1, 2, 9}, {1, 7, 1, 2, 10}, {1, 7, 1, 2, 11}, {1, 7, 1, 2, 12}, {1, 7, 1, 2, 13}, {1, 7, 1, 2, 14},
            {1, 7, 1, 2, 15}, {1, 7, 1, 2, 16}, {1, 7, 1, 2, 17}, {1, 7, 1, 2, 18}};
        int[] was = {7, 7, 0, 7, 0, -7, 9, 5, 14, 3, 1, 2, 7, 5, 28, 1};
        for (int i = 0; i < codes.length; i++) {
            int[] code = codes[i];
            int place = i < 3 ? 0 : code.length - 1;
            ProbeLoom x = Kit.loomOf(0, 0, Kit.join(Kit.bytes(1, 9), code, Kit.bytes(8, 7, 42)));
            ProbeLoom y = Kit.loomOf(0, 0, Kit.join(Kit.bytes(1, 9), code, Kit.bytes(43, 42)));
            for (ProbeLoom z : new ProbeLoom[] {x, y}) {
                Kit.due("REPLACE of " + i, z.probe(7, 0, 2 + place, MIN, MAX), 0);
                z.weave(0);
                z.run(0, 0, 0, 0, 99);
            }
            Kit.dueBoth("the one on top", x, 0, Kit.ab(0, 0, 99), Kit.ends(0, MIN, x.told(0, 2)), 0, was[i]);
            Kit.dueBoth("none below", y, 0, Kit.ab(0, 0, 99), Kit.ends(0, 9, y.told(0, 2)), 0, was[i]);
            Kit.due("marked", y.mark(1, 0), MIN);
        }
        replaceOfCall();
        int[] no = {0, 3, 4, 5, 6, 7, 8, 20, 21, 32, 33, 35, 36, 39, 41, 42, 43, 84, 96};
        for (int op : no) {
            ProbeLoom x = Kit.loomOf(1, 1, Kit.join(Kit.bytes(1, 1, 42, op, op == 33 ? 1 : 0), Kit.times(8, 0)));
            Kit.due("of " + op, x.probe(7, 0, 3, 0, 0), -2);
        }
    }

    private static void replaceOfCall() {
        ProbeLoom x = Kit.loomOf(1, 1, Kit.bytes(1, 6, 3, 0, 12, 42));
        Kit.make(x, 1, 1, Kit.bytes(3, 0, 40, 0, 42, 42), new int[] {2, 4, 5, 0});
        Kit.due("of call", x.probe(7, 1, 2, MAX, 0), 0);
        x.weave(1);
        Kit.dueBoth("done", x, 1, Kit.ab(2, 0, 99), Kit.ends(0, MAX, 7), 0, 3);
        Kit.dueBoth("not done: its FRAME threw", x, 1, Kit.ab(0, 0, 99), Kit.ends(0, 101, 6));
        ProbeLoom div = Kit.loomOf(2, 2, Kit.bytes(3, 0, 3, 1, 12, 42, 42), new int[] {4, 5, 6, 0});
        div.probe(7, 0, 4, 99, 0);
        div.weave(0);
        Kit.dueBoth("not done: it threw", div, 0, Kit.ab(9, 0, 99), Kit.ends(0, 101, 4));
        ProbeLoom take = Kit.loomOf(1, 1, Kit.bytes(1, 2, 36, 3, 0, 38, 42, 42), new int[] {5, 6, 7, 0});
        take.probe(7, 0, 5, 99, 0);
        take.weave(0);
        Kit.dueBoth("take that threw", take, 0, Kit.ab(2, 0, 99), Kit.ends(0, 102, 5));
        Kit.dueBoth("take", take, 0, Kit.ab(1, 0, 99), Kit.ends(0, 99, 5), 0, 0);
    }

    private static void orderAhead() {
        ProbeLoom x = Kit.loomOf(0, 0, Kit.bytes(1, 5, 42, 43, 1, 6, 42), new int[] {2, 3, 3, 0});
        x.probe(0, 0, 2, 0, 0);
        x.probe(6, 0, 2, 2, 9);
        x.probe(0, 0, 2, 0, 0);
        x.probe(6, 0, 2, 1, 8);
        x.probe(0, 0, 2, 0, 0);
        x.probe(3, 0, 0, 0, 0);
        x.weave(0);
        // The first FAULT only passes; behind the one that throws there is neither PASS nor LEAVE of the give.
        Kit.dueBoth("up to the one that throws", x, 0, Kit.ab(0, 0, 99), Kit.ends(0, 6, 4), 0, 0, 2, 0, 5, 6);
        Kit.due("its KIND", x.mark(2, 0), 8);
        // Behind a FAULT that throws a STORE keeps nothing and records nothing.
        ProbeLoom put = Kit.loomOf(0, 0, Kit.bytes(1, 5, 35, 0, 1, 6, 42));
        put.probe(4, 0, 2, 0, 0);
        put.probe(6, 0, 2, 1, 8);
        put.weave(0);
        Kit.dueBoth("no STORE", put, 0, Kit.ab(0, 0, 99), Kit.ends(1, 8, 1));
        Kit.due("it is not done", put.field(1, 0), 0);
    }

    private static void orderBehind() {
        ProbeLoom x = Kit.loomOf(0, 0, Kit.bytes(1, 5, 42));
        for (int p = 0; p < 24; p++) {
            Kit.due("REPLACE", x.probe(7, 0, 0, 100 + p, 0), p);
        }
        x.weave(0);
        int[] want = new int[48];
        for (int p = 0; p < 24; p++) {
            want[2 * p] = p;
            want[2 * p + 1] = p == 0 ? 5 : 99 + p;
        }
        Kit.dueBoth("24 one behind the other", x, 0, Kit.ab(0, 0, 99), Kit.ends(0, 123, 2), want);
        ProbeLoom put = Kit.loomOf(0, 0, Kit.bytes(1, 5, 35, 0, 1, 6, 42));
        put.probe(4, 0, 2, 0, 0);
        put.probe(4, 0, 2, 0, 0);
        put.weave(0);
        Kit.dueBoth("both RECORDS of each", put, 0, Kit.ab(0, 0, 99), Kit.ends(0, 6, 4), 0, 0, 0, 5, 1, 0, 1, 5);
        ProbeLoom side = Kit.loomOf(1, 1, Kit.bytes(3, 0, 21, 2, 1, 6, 42));
        side.probe(1, 0, 2, 0, 0);
        side.probe(1, 0, 2, 0, 0);
        side.weave(0);
        Kit.dueBoth("two SIDES of a jump", side, 0, Kit.ab(0, 0, 99), Kit.ends(0, 6, 4), 0, 1, 1, 1);
        Kit.dueBoth("two SIDES of none", side, 0, Kit.ab(1, 0, 99), Kit.ends(0, 6, 4), 0, 0, 1, 0);
    }

    private static void orderOfOthers() {
        ProbeLoom x = Kit.loomOf(2, 2, Kit.bytes(3, 0, 41, 42), new int[] {0, 3, 3, 9});
        int[] sorts = {3, 2, 5, 3, 2, 5};
        for (int i = 0; i < sorts.length; i++) {
            x.probe(sorts[i], 0, sorts[i] == 5 ? 3 : 0, 0, 0);
        }
        x.weave(0);
        Kit.dueBoth("caught and given", x, 0, Kit.ab(9, 4, 99), Kit.ends(0, 9, 3),
                1, 9, 1, 4, 4, 9, 4, 4, 2, 9, 5, 9, 0, 9, 3, 9);
        Kit.dueBoth("left by what is thrown", x, 0, Kit.ab(8, 4, 99), Kit.ends(1, 8, 2),
                1, 8, 1, 4, 4, 8, 4, 4, 0, -8, 3, -8);
    }

    private static void passingCounts() {
        // Passing 2 of FAULT 0 throws; it is none of FAULT 1, whose second is the next; so of 2.
        ProbeLoom x = Kit.loomOf(1, 1, Kit.bytes(5, 0, 255, 3, 0, 22, -5, 3, 0, 42, 43, 20, -11),
                new int[] {0, 3, 10, 0});
        x.probe(6, 0, 0, 2, 9);
        x.probe(6, 0, 0, 2, 8);
        x.probe(6, 0, 0, 2, 7);
        x.weave(0);
        Kit.dueBoth("three in turn", x, 0, Kit.ab(3, 0, 99), Kit.ends(0, 0, 3 * 3 + 3 * 2 + 2));
        int[] kinds = {9, 8, 7, 0};
        for (int i = 0; i < kinds.length; i++) {
            Kit.due("MARK " + i, x.mark(1, i), kinds[i]);
        }
        // A passing counts though the INSTRUCTION itself throws: 5 first, then the FAULT's 6.
        ProbeLoom y = Kit.loomOf(0, 0, Kit.bytes(1, 5, 41, 7, 20, -4), new int[] {2, 3, 3, 5});
        y.probe(6, 0, 2, 2, 6);
        y.weave(0);
        Kit.dueBoth("the second", y, 0, Kit.ab(0, 0, 99), Kit.ends(1, 6, 5));
    }

    private static void enterFirst() {
        // 0 inc 1, 3 load 0, 5 jump to 0 if not 0 ..
        ProbeLoom x = Kit.loomOf(1, 1, ROUND);
        x.probe(6, 0, 0, 9, 9);
        x.probe(0, 0, 0, 0, 0);
        x.probe(2, 0, 0, 0, 0);
        x.weave(0);
        Kit.dueBoth("ENTER ahead of PASS", x, 0, Kit.ab(1, 0, 99), Kit.ends(0, 3, 5), 2, 1, 1, 0);
        Kit.dueBoth("a jump to place 0", x, 0, Kit.ab(3, 0, 99), Kit.ends(0, 3, 11), 2, 3, 1, 0, 1, 0, 1, 0);
        // A TARGET at place 0 passes none either, and a FAULT at place 0 throws behind it.
        ProbeLoom y = Kit.loomOf(0, 1, Kit.bytes(20, 3, 42, 1, 5, 41), new int[] {0, 2, 2, 0});
        y.probe(6, 0, 0, 1, 9);
        y.probe(2, 0, 0, 0, 0);
        y.probe(3, 0, 0, 0, 0);
        y.weave(0);
        Kit.dueBoth("FAULT at place 0", y, 0, Kit.ab(0, 0, 99), Kit.ends(0, 9, 1), 1, 0, 2, 9);
    }

    private static void leaveOfGive() {
        ProbeLoom x = Kit.loomOf(0, 0, Kit.bytes(1, 5, 42));
        x.probe(3, 0, 0, 0, 0);
        x.probe(0, 0, 2, 0, 0);
        x.probe(6, 0, 2, 2, 9);
        x.weave(0);
        Kit.dueBoth("behind PASS", x, 0, Kit.ab(0, 0, 99), Kit.ends(0, 5, 2), 1, 0, 0, 5);
        Kit.dueBoth("ahead of the give that LIMIT cuts", x, 0, Kit.ab(0, 0, 1), Kit.ends(2, 0, 1), 1, 0, 0, 5);
        x.clear();
        x.probe(3, 0, 0, 0, 0);
        x.probe(6, 0, 2, 1, 9);
        x.probe(0, 0, 2, 0, 0);
        x.weave(0);
        Kit.dueBoth("behind a FAULT that throws", x, 0, Kit.ab(0, 0, 99), Kit.ends(1, 9, 1), 0, -9);
        // Each give of the METHOD.
        ProbeLoom two = Kit.loomOf(1, 1, Kit.bytes(3, 0, 21, 5, 1, 5, 42, 1, 6, 42));
        two.probe(3, 0, 0, 0, 0);
        two.weave(0);
        Kit.dueBoth("the first give", two, 0, Kit.ab(1, 0, 99), Kit.ends(0, 5, 4), 0, 5);
        Kit.dueBoth("the second give", two, 0, Kit.ab(0, 0, 99), Kit.ends(0, 6, 4), 0, 6);
    }

    private static void leaveOfThrown() {
        // METHOD 0 throws; 1 calls it; 2 calls 1 and catches: 0 is left, then 1, then caught in 2.
        ProbeLoom x = Kit.loomOf(1, 1, Kit.bytes(3, 0, 41));
        Kit.make(x, 1, 1, Kit.bytes(3, 0, 40, 0, 42));
        Kit.make(x, 1, 1, Kit.bytes(3, 0, 40, 1, 42, 42), new int[] {2, 4, 5, 0});
        x.probe(3, 2, 0, 0, 0);
        x.probe(3, 1, 0, 0, 0);
        x.probe(3, 0, 0, 0, 0);
        x.probe(5, 2, 5, 0, 0);
        x.probe(0, 0, 2, 0, 0);
        for (int m = 0; m < 3; m++) {
            x.weave(m);
        }
        Kit.dueBoth("from below", x, 2, Kit.ab(40, 0, 99), Kit.ends(0, 40, 7), 4, 0, 2, -40, 1, -40, 3, 40, 0, 40);
        Kit.dueBoth("no FRAME left", x, 1, Kit.ab(40, 0, 99), Kit.ends(1, 40, 4), 4, 0, 2, -40, 1, -40);
        // In a HANDLER's own INSTRUCTIONS what is thrown leaves as well.
        ProbeLoom y = Kit.loomOf(1, 1, Kit.bytes(3, 0, 41, 41), new int[] {0, 3, 3, 0});
        y.probe(3, 0, 0, 0, 0);
        y.weave(0);
        Kit.dueBoth("thrown by the TARGET", y, 0, Kit.ab(40, 0, 99), Kit.ends(1, 40, 3), 0, -40);
        Kit.due("place, woven", y.told(1, 6), 3);
        Kit.due("place, watched", y.told(2, 6), 3);
    }

    private static void caughtFirst() {
        ProbeLoom x = Kit.loomOf(1, 1, Kit.bytes(3, 0, 41, 42), new int[] {0, 3, 3, 0});
        x.probe(0, 0, 3, 0, 0);
        x.probe(6, 0, 3, 1, 7);
        x.probe(5, 0, 3, 0, 0);
        x.weave(0);
        // Ahead of PASS and of a FAULT that throws there.
        Kit.dueBoth("ahead of all", x, 0, Kit.ab(9, 0, 99), Kit.ends(1, 7, 2), 2, 9, 0, 0);
        // Two HANDLERS, one TARGET: each time by the one that caught.
        ProbeLoom y = Kit.loomOf(1, 1, Kit.bytes(3, 0, 41, 42), new int[] {0, 3, 3, 8}, new int[] {0, 3, 3, 9});
        y.probe(5, 0, 3, 0, 0);
        y.weave(0);
        Kit.dueBoth("by the first", y, 0, Kit.ab(8, 0, 99), Kit.ends(0, 8, 3), 0, 8);
        Kit.dueBoth("by the second", y, 0, Kit.ab(9, 0, 99), Kit.ends(0, 9, 3), 0, 9);
    }

    private static void faultIsNoStep() {
        ProbeLoom x = Kit.loomOf(0, 0, Kit.bytes(1, 5, 42, 42), new int[] {0, 3, 3, 0});
        x.probe(6, 0, 0, 1, 9);
        x.weave(0);
        Kit.dueBoth("one STEP: the give", x, 0, Kit.ab(0, 0, 1), Kit.ends(0, 9, 1));
        ProbeLoom y = Kit.loomOf(0, 0, Kit.bytes(1, 5, 42));
        y.probe(6, 0, 0, 1, 9);
        y.weave(0);
        Kit.dueBoth("none at all", y, 0, Kit.ab(0, 0, 1), Kit.ends(1, 9, 0));
    }

    private static void probesAreNoSteps() {
        ProbeLoom x = Kit.loomOf(1, 1, Kit.bytes(3, 0, 21, 2, 1, 5, 35, 0, 34, 0, 42), new int[] {0, 2, 10, 0});
        int[][] probes = {{0, 0}, {1, 2}, {2, 0}, {3, 0}, {4, 6}, {5, 10}, {7, 8}, {0, 10}, {6, 10}};
        for (int[] p : probes) {
            Kit.due("probe", x.probe(p[0], 0, p[1], 1000, 1) >= 0);
        }
        Kit.due("STEPS are just enough in manner 0", x.run(0, 0, 0, 0, 6), 0);
        x.weave(0);
        for (int manner = 1; manner <= 2; manner++) {
            Kit.due("STEPS are just enough", x.run(manner, 0, 0, 0, 6), 0);
            Kit.due("STEPS", x.told(manner, 2), 6);
            Kit.due("one fewer", x.run(manner, 0, 0, 0, 5), 2);
        }
    }
}
