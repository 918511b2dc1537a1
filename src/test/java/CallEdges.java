/** The constants, and promises 1 to 14. */
final class CallEdges {
    private static final int MIN = Integer.MIN_VALUE;
    private static final int MAX = Integer.MAX_VALUE;
    private static final int[] GIVE_ONE = {1, 1, 42};
    /** What is no METHOD of an object with one METHOD. */
    private static final int[] NO_METHODS = {-1, 1, 2, 5, 6, 7, 255, MIN, MAX};

    private CallEdges() {
    }

    static void all(Edges edges) {
        edges.test("The constants: `NONE = -1`: None, nothing such. `BAD = -2`: Not as told. `FULL = -3`: There is no "
                + "room.", CallEdges::constants);
        edges.chapter("## Promise 1: A new object");
        edges.test("`ProbeLoom()`: An empty TAPE; no METHODS, PROBES.", CallEdges::newObject);
        edges.chapter("## Promise 2: feed");
        edges.test("`int feed(int a, int b, int c, int d, int e)`: Twenty bytes come behind the TAPE, the highest of "
                + "each int first: how many it has.", CallEdges::feed);
        edges.test("FULL: there would be more than 600.", CallEdges::feedFull);
        edges.chapter("## Promise 3: cut");
        edges.test("`int cut(int n)`: The TAPE's last n bytes go: how many it has.", CallEdges::cut);
        edges.test("BAD: n is below 0, or there are not so many.", CallEdges::cutBad);
        edges.chapter("## Promise 4: make");
        edges.test("`int make()`: The TAPE is the next METHOD, not woven: its number.", CallEdges::make);
        edges.test("FULL: there are 6 (ahead of a FAULT);", CallEdges::makeFull);
        edges.test("-10 less a FAULT.", CallEdges::makeFault);
        edges.chapter("## Promise 5: place");
        edges.test("`int place()`: The place of the FAULT of the latest make(); NONE if it told none.",
                CallEdges::place);
        methods(edges);
        probes(edges);
    }

    private static void methods(Edges edges) {
        edges.chapter("## Promise 6: method");
        edges.test("`int method(int m, int what)`: Of METHOD m: 0 ARGUMENTS, 1 LOCALS, 2 LENGTH, 3 HANDLERS, 4 how many "
                + "INSTRUCTIONS,", CallEdges::methodTells);
        edges.test("5 the greatest height of its STACK before an INSTRUCTION that can be come to,", CallEdges::height);
        edges.test("6 bytes of its WOVEN code, 7 its HANDLERS woven, 8 how many of the CODE's jumps became long by "
                + "weaving, 9 how many PADS (that of LEFT, AGAIN is one)", CallEdges::methodWoven);
        edges.test("(6 to 9 are NONE if it is not woven).", CallEdges::methodNotWoven);
        edges.test("BAD: no such METHOD, or another what.", CallEdges::methodBad);
        edges.chapter("## Promise 7: octet");
        edges.test("`int octet(int m, boolean woven, int i)`: Byte i of METHOD m's CODE, or of its WOVEN code.",
                CallEdges::octet);
        edges.test("NONE: none such.", CallEdges::octetNone);
        edges.chapter("## Promise 8: handler");
        edges.test("`int handler(int m, boolean woven, int k, int what)`: Of HANDLER k of METHOD m, plain or woven: 0 "
                + "FROM, 1 TO, 2 TARGET, 3 KIND.", CallEdges::handler);
        edges.test("NONE: none such.", CallEdges::handlerNone);
        edges.chapter("## Promise 9: type");
        edges.test("`int type(int m, int place, int what)`: Before the INSTRUCTION at a place of METHOD m's CODE: what "
                + "= 0 the height of the STACK; 1 .. 12 the TYPE of LOCAL what - 1: 0 NO, 1 INT, 2 ROW; 13 .. 22 that of "
                + "the STACK's cell what - 13, from below.", CallEdges::type);
        edges.test("NONE: there is no such, no INSTRUCTION begins there, or it can't be come to.", CallEdges::typeNone);
        edges.chapter("## Promise 10: moved");
        edges.test("`int moved(int m, int place)`: Where the INSTRUCTION at a place of METHOD m's CODE stands itself in "
                + "the WOVEN code.", CallEdges::moved);
        edges.test("NONE: none begins there, it is not woven.", CallEdges::movedNone);
    }

    private static void probes(Edges edges) {
        edges.chapter("## Promise 11: probe");
        edges.test("`int probe(int sort, int m, int place, int x, int y)`: A PROBE: its number.", CallEdges::probe);
        edges.test("FULL: 24 are there.", CallEdges::probeFull);
        edges.test("BAD (ahead of FULL): no such SORT, METHOD, INSTRUCTION, or it is not as told of the SORT; x, y of "
                + "FAULT.", CallEdges::probeBad);
        edges.chapter("## Promise 12: clear");
        edges.test("`int clear()`: All PROBES go, and no METHOD is woven any more: how many PROBES there were.",
                CallEdges::clear);
        edges.chapter("## Promise 13: weave");
        edges.test("`int weave(int m)`: METHOD m is woven with the PROBES that there are: how many bytes its WOVEN code "
                + "has.", CallEdges::weave);
        edges.test("BAD: none such;", CallEdges::weaveBad);
        edges.test("FULL: it would have more than 1000: it stays as it was.", CallEdges::weaveFull);
        edges.chapter("## Promise 14: unweave");
        edges.test("`int unweave(int m)`: METHOD m is not woven any more: 1 if it was, else 0.", CallEdges::unweave);
        edges.test("BAD: none such.", CallEdges::unweaveBad);
    }

    private static void constants() {
        Kit.due("NONE", ProbeLoom.NONE, -1);
        Kit.due("BAD", ProbeLoom.BAD, -2);
        Kit.due("FULL", ProbeLoom.FULL, -3);
    }

    private static void newObject() {
        ProbeLoom x = new ProbeLoom();
        for (int what = 0; what <= 3; what++) {
            Kit.due("count " + what, x.count(what), 0);
        }
        Kit.due("nothing to cut", x.cut(1), -2);
        Kit.due("cut of none", x.cut(0), 0);
        Kit.due("no METHOD", x.method(0, 0), -2);
        Kit.due("no METHOD to probe", x.probe(0, 0, 0, 0, 0), -2);
        Kit.due("no PROBES", x.clear(), 0);
        Kit.due("an empty TAPE is no METHOD", x.make(), -11);
        Kit.due("its length is 0", x.place(), 0);
        Kit.due("the first is 0", Kit.make(x, 0, 0, GIVE_ONE), 0);
        Kit.due("the first PROBE is 0", x.probe(0, 0, 0, 0, 0), 0);
        // An object has nothing of another one.
        ProbeLoom y = new ProbeLoom();
        Kit.due("another has no METHODS", y.count(0), 0);
        Kit.due("another has no PROBES", y.count(1), 0);
    }

    private static void feed() {
        ProbeLoom x = new ProbeLoom();
        // 41 bytes of three feeds: LENGTH 36.
        int[] want = {1, 1, 7, 1, 2, 7, 1, 3, 7, 1, 4, 7, 1, 5, 7, 1, 6, 7, 1, 7, 7, 1, 8, 7, 1, 9, 7, 1, 255, 7, 2, 128,
            0, 0, 1};
        Kit.due("20", x.feed(0x00000024, 0x01010701, 0x02070103, 0x07010407, 0x01050701), 20);
        Kit.due("40", x.feed(0x06070107, 0x07010807, 0x01090701, 0xFF070280, 0x0000012A), 40);
        Kit.due("60", x.feed(0x00FFFFFF, -1, -1, -1, -1), 60);
        Kit.due("cut", x.cut(19), 41);
        Kit.due("make", x.make(), 0);
        for (int i = 0; i < want.length; i++) {
            Kit.due("byte " + i, x.octet(0, false, i), want[i]);
        }
        Kit.due("the last byte", x.octet(0, false, 35), 42);
        Kit.dueEnd("push s32", x, 0, Kit.ab(0, 0, 99), 0, MIN + 1);
    }

    private static void feedFull() {
        ProbeLoom x = new ProbeLoom();
        for (int i = 1; i <= 30; i++) {
            Kit.due("feed " + i, x.feed(-1, -1, -1, -1, -1), 20 * i);
        }
        Kit.due("620", x.feed(0, 0, 0, 0, 0), -3);
        Kit.due("still 600", x.count(2), 600);
        for (int less = 1; less <= 19; less++) {
            Kit.due("cut one", x.cut(1), 600 - less);
            Kit.due("feed on " + (600 - less), x.feed(0, 0, 0, 0, 0), -3);
        }
        Kit.due("cut one", x.cut(1), 580);
        Kit.due("600", x.feed(0, 0, 0, 0, 0), 600);
        Kit.due("more", x.feed(0, 0, 0, 0, 0), -3);
        Kit.due("cut all", x.cut(600), 0);
        Kit.due("from the beginning", x.feed(0, 0, 0, 0, 0), 20);
    }

    private static void cut() {
        ProbeLoom x = new ProbeLoom();
        x.feed(0x00000003, 0x01092A00, 0x01020304, 0x05060708, 0x090A0B0C);
        Kit.due("none", x.cut(0), 20);
        Kit.due("one", x.cut(1), 19);
        Kit.due("eleven", x.cut(11), 8);
        Kit.due("the first stay", x.make(), 0);
        Kit.dueEnd("as they were", x, 0, Kit.ab(0, 0, 9), 0, 9);
        x.feed(1, 2, 3, 4, 5);
        Kit.due("all", x.cut(20), 0);
        Kit.due("none of none", x.cut(0), 0);
        // What is fed behind a cut stands where the cut bytes stood.
        x.feed(0x00000003, 0x01FFFFFF, -1, -1, -1);
        Kit.due("15", x.cut(15), 5);
        x.feed(0x082A00FF, -1, -1, -1, -1);
        Kit.due("17", x.cut(17), 8);
        Kit.due("make", x.make(), 1);
        Kit.dueEnd("anew", x, 1, Kit.ab(0, 0, 9), 0, 8);
    }

    private static void cutBad() {
        ProbeLoom x = new ProbeLoom();
        int[] wrong = {-1, -2, -20, MIN, MAX};
        for (int length = 0; length <= 40; length += 20) {
            for (int n : wrong) {
                Kit.due("cut " + n + " of " + length, x.cut(n), -2);
            }
            Kit.due("one more than " + length, x.cut(length + 1), -2);
            Kit.due("still", x.count(2), length);
            x.feed(0, 0, 0, 0, 0);
        }
        Kit.due("just so many", x.cut(60), 0);
        Kit.due("one of none", x.cut(1), -2);
    }

    private static void make() {
        ProbeLoom x = new ProbeLoom();
        for (int m = 0; m < 6; m++) {
            Kit.due("number", Kit.make(x, 0, 0, Kit.bytes(1, m, 42)), m);
            Kit.due("METHODS", x.count(0), m + 1);
            Kit.due("TAPE", x.count(2), 0);
            Kit.due("not woven", x.method(m, 6), -1);
            Kit.due("not woven", x.unweave(m), 0);
            Kit.due("woven", x.weave(m), 3);
        }
        for (int m = 0; m < 6; m++) {
            Kit.due("those before stay woven", x.unweave(m), 1);
        }
    }

    private static void makeFull() {
        ProbeLoom x = new ProbeLoom();
        for (int m = 0; m < 6; m++) {
            Kit.make(x, 0, 0, Kit.bytes(1, m, 42));
        }
        int[][] tapes = {{}, {9}, Kit.tell(0, 0, GIVE_ONE, Kit.NO_HANDLERS), Kit.tell(0, 0, Kit.bytes(42), Kit.NO_HANDLERS),
            Kit.tell(0, 0, Kit.bytes(20, 1), Kit.NO_HANDLERS), Kit.tell(0, 0, GIVE_ONE, new int[][] {{0, 0, 0, 0}})};
        for (int[] tape : tapes) {
            Kit.feed(x, tape);
            Kit.due("FULL", x.make(), -3);
            Kit.due("no FAULT", x.place(), -1);
            Kit.due("the TAPE is empty", x.count(2), 0);
            Kit.due("six", x.count(0), 6);
        }
        for (int m = 0; m < 6; m++) {
            Kit.due("METHOD " + m, x.octet(m, false, 1), m);
        }
    }

    private static void makeFault() {
        ProbeLoom x = new ProbeLoom();
        Kit.due("FORM", Kit.make(x, 0, 0, Kit.bytes(44)), -11);
        Kit.due("JUMP", Kit.make(x, 0, 0, Kit.bytes(20, 1)), -12);
        Kit.due("HANDLER", Kit.make(x, 0, 0, GIVE_ONE, new int[] {0, 0, 0, 0}), -13);
        Kit.due("TYPES", Kit.make(x, 0, 0, Kit.bytes(42)), -14);
        Kit.due("no METHODS", x.count(0), 0);
        // Five are there: the sixth may still be at FAULT.
        for (int m = 0; m < 5; m++) {
            Kit.make(x, 0, 0, GIVE_ONE);
        }
        Kit.due("the sixth", Kit.make(x, 0, 0, Kit.bytes(42)), -14);
        Kit.due("the sixth", Kit.make(x, 0, 0, GIVE_ONE), 5);
    }

    private static void place() {
        ProbeLoom x = new ProbeLoom();
        Kit.due("no make() yet", x.place(), -1);
        Kit.make(x, 0, 0, Kit.bytes(0, 44));
        Kit.due("FORM", x.place(), 5);
        Kit.due("asked again", x.place(), 5);
        x.feed(0, 0, 0, 0, 0);
        x.cut(20);
        Kit.due("other calls do not change it", x.place(), 5);
        Kit.make(x, 0, 0, Kit.bytes(0, 0, 20, 1));
        Kit.due("JUMP", x.place(), 6);
        Kit.make(x, 0, 0, GIVE_ONE, new int[] {0, 0, 0, 0});
        Kit.due("HANDLER", x.place(), 8);
        Kit.make(x, 0, 0, Kit.bytes(0, 0, 0, 42));
        Kit.due("TYPES", x.place(), 0);
        Kit.make(x, 0, 0, GIVE_ONE);
        Kit.due("a METHOD", x.place(), -1);
        x.make();
        Kit.due("an empty TAPE", x.place(), 0);
        // The last byte of 600.
        int[] most = Kit.join(Kit.bytes(0, 0, 1, 144), Kit.times(397, 0), GIVE_ONE, Kit.bytes(0));
        Kit.feed(x, Kit.join(most, Kit.times(600 - most.length, 0)));
        x.make();
        Kit.due("one too much", x.place(), 405);
        for (int m = 1; m < 6; m++) {
            Kit.make(x, 0, 0, GIVE_ONE);
        }
        Kit.make(x, 0, 0, Kit.bytes(44));
        Kit.due("FULL is no FAULT", x.place(), -1);
    }

    private static ProbeLoom tall() {
        return Kit.loomOf(2, 7, Kit.bytes(1, 1, 1, 2, 9, 42, 6, 43, 20, -2, 0), new int[] {0, 4, 6, 7},
                new int[] {4, 5, 6, 0});
    }

    private static void methodTells() {
        ProbeLoom x = tall();
        int[] want = {2, 7, 11, 2, 8};
        for (int what = 0; what < want.length; what++) {
            Kit.due("what " + what, x.method(0, what), want[what]);
        }
        ProbeLoom least = Kit.loomOf(0, 0, Kit.bytes(20, 0));
        int[] wantLeast = {0, 0, 2, 0, 1, 0};
        for (int what = 0; what < wantLeast.length; what++) {
            Kit.due("the least, what " + what, least.method(0, what), wantLeast[what]);
        }
        int[][] eight = new int[8][];
        for (int k = 0; k < 8; k++) {
            eight[k] = new int[] {0, 400, 399, k};
        }
        ProbeLoom most = Kit.loomOf(4, 12, Kit.join(Kit.times(396, 0), Kit.bytes(1, 1, 42, 42)), eight);
        int[] wantMost = {4, 12, 400, 8, 399, 1};
        for (int what = 0; what < wantMost.length; what++) {
            Kit.due("the most, what " + what, most.method(0, what), wantMost[what]);
        }
        Kit.make(least, 1, 3, GIVE_ONE);
        Kit.due("each METHOD has its own", least.method(1, 1), 3);
        Kit.due("each METHOD has its own", least.method(0, 1), 0);
    }

    private static void height() {
        for (int high = 1; high <= 10; high++) {
            ProbeLoom x = Kit.loomOf(0, 0, Kit.join(Kit.times(high, 1, 5), Kit.bytes(42)));
            Kit.due("height " + high, x.method(0, 5), high);
        }
        Kit.due("none", Kit.loomOf(0, 0, Kit.bytes(20, 0)).method(0, 5), 0);
        // What is behind the last that puts is before none: a throw of the second, a jump with none.
        Kit.due("before an INSTRUCTION", Kit.loomOf(0, 0, Kit.bytes(1, 5, 1, 5, 9, 41)).method(0, 5), 2);
        Kit.due("what can't be come to", Kit.loomOf(0, 0, Kit.bytes(1, 5, 42, 1, 5, 1, 5, 1, 5, 42)).method(0, 5), 1);
        // A TARGET has a height of 1, also where all else has none.
        Kit.due("a TARGET", Kit.loomOf(0, 0, Kit.bytes(20, 0, 42), new int[] {0, 2, 2, 0}).method(0, 5), 1);
        // The greatest may be at place 0 alone, and then is 0.
        Kit.due("in the middle", Kit.loomOf(0, 0, Kit.bytes(1, 5, 1, 5, 1, 5, 7, 7, 42)).method(0, 5), 3);
    }

    private static void methodWoven() {
        ProbeLoom x = Kit.loomOf(1, 1, Kit.join(Kit.bytes(3, 0, 21, 127), Kit.times(125, 0), Kit.bytes(1, 7, 42, 42)),
                new int[] {0, 2, 132, 0});
        int[][] probes = {{0, 4}, {1, 2}, {5, 132}, {3, 0}};
        int[][] want = {{133, 1, 0, 0}, {136, 1, 1, 0}, {144, 1, 1, 1}, {148, 1, 1, 2}, {155, 2, 1, 3}};
        for (int round = 0; round <= 4; round++) {
            Kit.due("weave", x.weave(0), want[round][0]);
            for (int what = 6; what <= 9; what++) {
                Kit.due("what " + what + " with " + round + " PROBES", x.method(0, what), want[round][what - 6]);
            }
            if (round < 4) {
                x.probe(probes[round][0], 0, probes[round][1], 0, 0);
            }
        }
        Kit.due("0 to 5 are of the CODE", x.method(0, 2), 133);
        Kit.due("0 to 5 are of the CODE", x.method(0, 3), 1);
    }

    private static void methodNotWoven() {
        ProbeLoom x = tall();
        dueNotWoven("at first", x);
        x.probe(3, 0, 0, 0, 0);
        dueNotWoven("with a PROBE", x);
        x.weave(0);
        Kit.due("woven", x.method(0, 6) > 0);
        x.unweave(0);
        dueNotWoven("unwoven", x);
        x.weave(0);
        x.clear();
        dueNotWoven("cleared", x);
    }

    private static void dueNotWoven(String what, ProbeLoom x) {
        for (int i = 6; i <= 9; i++) {
            Kit.due(what + ": " + i, x.method(0, i), -1);
        }
    }

    private static void methodBad() {
        ProbeLoom x = tall();
        for (int m : NO_METHODS) {
            for (int what = 0; what <= 9; what += 3) {
                Kit.due("METHOD " + m, x.method(m, what), -2);
            }
        }
        int[] whats = {-1, 10, 11, MIN, MAX};
        for (int what : whats) {
            Kit.due("what " + what, x.method(0, what), -2);
        }
        x.weave(0);
        for (int what : whats) {
            Kit.due("what " + what + ", woven", x.method(0, what), -2);
        }
    }

    private static void octet() {
        ProbeLoom x = Kit.loomOf(1, 1, Kit.bytes(3, 0, 1, 255, 9, 42));
        x.probe(0, 0, 4, 0, 0);
        x.weave(0);
        int[] plain = {3, 0, 1, 255, 9, 42};
        int[] woven = {3, 0, 1, 255, 48, 0, 9, 42};
        for (int i = 0; i < plain.length; i++) {
            Kit.due("CODE " + i, x.octet(0, false, i), plain[i]);
        }
        for (int i = 0; i < woven.length; i++) {
            Kit.due("WOVEN " + i, x.octet(0, true, i), woven[i]);
        }
        ProbeLoom most = Kit.loomOf(0, 0, Kit.join(Kit.times(397, 0), GIVE_ONE));
        Kit.due("byte 399", most.octet(0, false, 399), 42);
    }

    private static void octetNone() {
        ProbeLoom x = Kit.loomOf(0, 0, GIVE_ONE);
        int[] none = {-1, 3, 4, 400, 1000, MIN, MAX};
        for (int i : none) {
            Kit.due("CODE " + i, x.octet(0, false, i), -1);
        }
        for (int i = 0; i < 3; i++) {
            Kit.due("not woven", x.octet(0, true, i), -1);
        }
        x.weave(0);
        for (int i : none) {
            Kit.due("WOVEN " + i, x.octet(0, true, i), -1);
        }
        x.unweave(0);
        Kit.due("unwoven", x.octet(0, true, 0), -1);
        for (int m : NO_METHODS) {
            Kit.due("METHOD " + m, x.octet(m, false, 0), -1);
            Kit.due("METHOD " + m + " woven", x.octet(m, true, 0), -1);
        }
        ProbeLoom most = Kit.loomOf(0, 0, Kit.join(Kit.times(397, 0), GIVE_ONE));
        Kit.due("byte 400", most.octet(0, false, 400), -1);
        // A METHOD that was longer, and refused, has left no bytes.
        ProbeLoom y = new ProbeLoom();
        Kit.make(y, 0, 0, Kit.bytes(0, 0, 0, 0, 0, 42));
        Kit.make(y, 0, 0, GIVE_ONE);
        Kit.due("byte 3", y.octet(0, false, 3), -1);
    }

    private static void handler() {
        ProbeLoom x = Kit.loomOf(0, 0, Kit.bytes(1, 5, 42, 42), new int[] {0, 2, 3, 255}, new int[] {2, 4, 3, 0});
        x.probe(0, 0, 2, 0, 0);
        x.probe(3, 0, 0, 0, 0);
        x.weave(0);
        Kit.dueHandler("plain", x, false, 0, 0, 2, 3, 255);
        Kit.dueHandler("plain", x, false, 1, 2, 4, 3, 0);
        Kit.dueHandler("woven", x, true, 0, 0, 2, 7, 255);
        Kit.dueHandler("woven", x, true, 1, 2, 10, 7, 0);
        Kit.dueHandler("woven", x, true, 2, 0, 10, 10, 0);
    }

    private static void handlerNone() {
        ProbeLoom x = Kit.loomOf(0, 0, Kit.bytes(1, 5, 42, 42), new int[] {0, 2, 3, 255}, new int[] {2, 4, 3, 0});
        int[] none = {-1, 2, 3, 8, 9, 1 << 30, MIN, MAX};
        int[] whats = {-1, 4, 5, MIN, MAX};
        for (int what = 0; what < 4; what++) {
            Kit.due("not woven", x.handler(0, true, 0, what), -1);
        }
        x.weave(0);
        for (boolean woven : new boolean[] {false, true}) {
            for (int k : none) {
                Kit.due("HANDLER " + k, x.handler(0, woven, k, 0), -1);
            }
            for (int what : whats) {
                Kit.due("what " + what, x.handler(0, woven, 0, what), -1);
                Kit.due("what " + what + " of none", x.handler(0, woven, -1, what), -1);
                Kit.due("what " + what + " of the last", x.handler(0, woven, 1, what), -1);
            }
            for (int m : NO_METHODS) {
                Kit.due("METHOD " + m, x.handler(m, woven, 0, 0), -1);
            }
        }
        x.unweave(0);
        Kit.due("unwoven", x.handler(0, true, 0, 0), -1);
        Kit.due("none at all", Kit.loomOf(0, 0, GIVE_ONE).handler(0, false, 0, 0), -1);
    }

    private static void type() {
        // LOCAL 0 INT, 1 NO, 2 ROW .. 11 INT; the STACK from below: ROW, INT.
        ProbeLoom x = Kit.loomOf(1, 12, Kit.bytes(1, 2, 36, 4, 2, 1, 1, 4, 11, 3, 2, 3, 11, 42));
        Kit.due("height", x.type(0, 13, 0), 2);
        int[] locals = {1, 0, 2, 0, 0, 0, 0, 0, 0, 0, 0, 1};
        for (int n = 0; n < 12; n++) {
            Kit.due("LOCAL " + n, x.type(0, 13, n + 1), locals[n]);
        }
        Kit.due("the lowest cell", x.type(0, 13, 13), 2);
        Kit.due("the next", x.type(0, 13, 14), 1);
        ProbeLoom ten = Kit.loomOf(0, 0, Kit.join(Kit.times(9, 1, 5), Kit.bytes(1, 5, 36, 7, 42)));
        Kit.due("height 10", ten.type(0, 21, 0), 10);
        Kit.due("cell 8", ten.type(0, 21, 21), 1);
        Kit.due("cell 9", ten.type(0, 21, 22), 2);
        ProbeLoom most = Kit.loomOf(4, 4, Kit.join(Kit.times(397, 0), GIVE_ONE));
        Kit.due("at place 399", most.type(0, 399, 0), 1);
    }

    private static void typeNone() {
        ProbeLoom x = Kit.loomOf(1, 3, Kit.bytes(1, 5, 42, 0, 42));
        int[] whats = {-1, 4, 5, 12, 14, 22, 23, 24, 45, MIN, MAX};
        for (int what : whats) {
            Kit.due("what " + what, x.type(0, 2, what), -1);
        }
        Kit.due("the last LOCAL", x.type(0, 2, 3), 0);
        Kit.due("the only cell", x.type(0, 2, 13), 1);
        Kit.due("no cell", x.type(0, 0, 13), -1);
        int[] places = {-1, 1, 5, 6, 400, MIN, MAX};
        for (int place : places) {
            Kit.due("place " + place, x.type(0, place, 0), -1);
            Kit.due("place " + place, x.type(0, place, 1), -1);
        }
        for (int what = 0; what <= 23; what++) {
            Kit.due("not come to, what " + what, x.type(0, 3, what), -1);
            Kit.due("not come to, what " + what, x.type(0, 4, what), -1);
        }
        for (int m : NO_METHODS) {
            Kit.due("METHOD " + m, x.type(m, 0, 0), -1);
        }
        ProbeLoom most = Kit.loomOf(0, 12, GIVE_ONE);
        Kit.due("LOCAL 11", most.type(0, 0, 12), 0);
        Kit.due("what 13 is a cell", most.type(0, 0, 13), -1);
        Kit.due("no LOCALS", Kit.loomOf(0, 0, GIVE_ONE).type(0, 0, 1), -1);
    }

    private static void moved() {
        ProbeLoom x = Kit.loomOf(1, 1, Kit.bytes(3, 0, 35, 3, 1, 5, 42));
        int[][] probes = {{2, 0}, {0, 0}, {4, 2}, {7, 4}, {3, 0}};
        for (int[] p : probes) {
            x.probe(p[0], 0, p[1], 0, 0);
        }
        x.weave(0);
        // ENTER, PASS, load; OLD, put, NEW; push, REPLACE; LEAVE, give.
        int[][] want = {{0, 4}, {2, 8}, {4, 12}, {6, 18}};
        for (int[] w : want) {
            Kit.due("place " + w[0], x.moved(0, w[0]), w[1]);
            Kit.due("its OP", x.octet(0, true, w[1]), x.octet(0, false, w[0]));
        }
        ProbeLoom most = Kit.loomOf(0, 0, Kit.join(Kit.times(397, 0), GIVE_ONE));
        most.weave(0);
        Kit.due("place 399", most.moved(0, 399), 399);
        // What can't be come to is moved as well.
        ProbeLoom never = Kit.loomOf(0, 0, Kit.bytes(1, 1, 42, 0));
        never.probe(0, 0, 3, 0, 0);
        never.weave(0);
        Kit.due("not come to", never.moved(0, 3), 5);
    }

    private static void movedNone() {
        ProbeLoom x = Kit.loomOf(0, 0, GIVE_ONE);
        Kit.due("not woven", x.moved(0, 0), -1);
        x.weave(0);
        int[] none = {-1, 1, 3, 4, 400, 1000, MIN, MAX};
        for (int place : none) {
            Kit.due("place " + place, x.moved(0, place), -1);
        }
        Kit.due("place 0", x.moved(0, 0), 0);
        Kit.due("place 2", x.moved(0, 2), 2);
        for (int m : NO_METHODS) {
            Kit.due("METHOD " + m, x.moved(m, 0), -1);
        }
        x.unweave(0);
        Kit.due("unwoven", x.moved(0, 0), -1);
        x.weave(0);
        x.clear();
        Kit.due("cleared", x.moved(0, 0), -1);
    }

    private static void probe() {
        ProbeLoom x = Kit.loomOf(0, 0, Kit.bytes(1, 5, 42));
        for (int p = 0; p < 24; p++) {
            Kit.due("number " + p, x.probe(p % 2 == 0 ? 0 : 7, 0, 0, MIN + p, MAX), p);
            Kit.due("PROBES", x.count(1), p + 1);
        }
        ProbeLoom y = Kit.loomOf(0, 0, Kit.bytes(1, 5, 42));
        Kit.due("a refused one has no number", y.probe(9, 0, 0, 0, 0), -2);
        Kit.due("the first", y.probe(0, 0, 2, MIN, MAX), 0);
        Kit.due("a refused one has no number", y.probe(0, 0, 1, 0, 0), -2);
        Kit.due("the same once more", y.probe(0, 0, 2, MIN, MAX), 1);
    }

    private static void probeFull() {
        ProbeLoom x = Kit.loomOf(0, 0, Kit.bytes(1, 5, 42));
        for (int p = 0; p < 23; p++) {
            x.probe(0, 0, 0, 0, 0);
        }
        Kit.due("the 24th", x.probe(0, 0, 0, 0, 0), 23);
        int[] sorts = {0, 2, 3, 6, 7};
        for (int sort : sorts) {
            Kit.due("SORT " + sort, x.probe(sort, 0, 0, 1, 1), -3);
        }
        Kit.due("24", x.count(1), 24);
        Kit.due("weave", x.weave(0), 3 + 48);
        Kit.due("clear", x.clear(), 24);
        Kit.due("room again", x.probe(0, 0, 0, 0, 0), 0);
    }

    private static void dueBadProbes(ProbeLoom x) {
        int[] sorts = {-1, 8, 9, MIN, MAX};
        for (int sort : sorts) {
            Kit.due("SORT " + sort, x.probe(sort, 0, 0, 1, 1), -2);
        }
        int[] places = {-1, 1, 5, 6, 400, MIN, MAX};
        for (int sort = 0; sort < 8; sort++) {
            for (int m : NO_METHODS) {
                Kit.due("METHOD " + m, x.probe(sort, m, 0, 1, 1), -2);
            }
            for (int place : places) {
                Kit.due("place " + place, x.probe(sort, 0, place, 1, 1), -2);
            }
        }
        int[][] notAsTold = {{1, 0}, {2, 2}, {3, 2}, {4, 0}, {5, 0}, {5, 2}, {7, 2}};
        for (int[] p : notAsTold) {
            Kit.due("SORT " + p[0] + " at " + p[1], x.probe(p[0], 0, p[1], 1, 1), -2);
        }
        int[][] xys = {{0, 1}, {1001, 1}, {-1, 1}, {MIN, 1}, {MAX, 1}, {1, 0}, {1, 101}, {1, -1}, {1, MIN}, {1, MAX}, {0, 0}};
        for (int[] xy : xys) {
            Kit.due("FAULT " + xy[0] + ", " + xy[1], x.probe(6, 0, 0, xy[0], xy[1]), -2);
        }
    }

    private static void probeBad() {
        // 0 push, 2 give, 3 nop, 4 give: 4 is a TARGET.
        ProbeLoom x = Kit.loomOf(0, 0, Kit.bytes(1, 5, 42, 0, 42), new int[] {0, 2, 4, 0});
        dueBadProbes(x);
        Kit.due("none came", x.count(1), 0);
        int[][] well = {{6, 1, 1}, {6, 1000, 100}, {5, MIN, MAX}, {3, 0, 0}, {2, 0, 0}};
        for (int i = 0; i < well.length; i++) {
            Kit.due("well", x.probe(well[i][0], 0, well[i][0] == 5 ? 4 : 0, well[i][1], well[i][2]), i);
        }
        ProbeLoom full = Kit.loomOf(0, 0, Kit.bytes(1, 5, 42, 0, 42), new int[] {0, 2, 4, 0});
        for (int p = 0; p < 24; p++) {
            full.probe(0, 0, 0, 0, 0);
        }
        dueBadProbes(full);
        Kit.due("FULL", full.probe(6, 0, 0, 1, 1), -3);
    }

    private static void clear() {
        ProbeLoom x = new ProbeLoom();
        Kit.due("none of none", x.clear(), 0);
        for (int m = 0; m < 6; m++) {
            Kit.make(x, 0, 0, Kit.bytes(1, 5, 42));
        }
        Kit.due("none", x.clear(), 0);
        for (int p = 0; p < 24; p++) {
            x.probe(7, p % 6, 0, 10 + p, 0);
        }
        for (int m = 0; m < 6; m++) {
            x.weave(m);
        }
        x.run(1, 5, 0, 0, 9);
        Kit.due("24", x.clear(), 24);
        Kit.due("PROBES", x.count(1), 0);
        for (int m = 0; m < 6; m++) {
            Kit.due("METHOD " + m, x.method(m, 6), -1);
            Kit.dueBoth("METHOD " + m + " as it is", x, m, Kit.ab(0, 0, 9), Kit.ends(0, 5, 2));
        }
        Kit.due("METHODS stay", x.count(0), 6);
        Kit.due("twice", x.clear(), 0);
        Kit.due("from 0 on", x.probe(0, 3, 0, 0, 0), 0);
        Kit.due("old ones are not woven", x.weave(5), 3);
        // A METHOD without PROBES that was woven is not woven either.
        x.weave(0);
        Kit.due("one", x.clear(), 1);
        Kit.due("not woven", x.unweave(0), 0);
    }

    private static void weave() {
        ProbeLoom x = Kit.loomOf(0, 0, Kit.bytes(1, 5, 42));
        Kit.make(x, 0, 0, Kit.bytes(1, 6, 42));
        Kit.due("without PROBES", x.weave(0), 3);
        x.probe(0, 1, 0, 0, 0);
        Kit.due("those of another METHOD", x.weave(0), 3);
        x.probe(0, 0, 0, 0, 0);
        Kit.due("one", x.weave(0), 5);
        Kit.due("again", x.weave(0), 5);
        Kit.due("bytes", x.method(0, 6), 5);
        Kit.dueWoven("with PROBE 1", x, 0, 48, 1, 1, 5, 42);
        for (int p = 2; p < 24; p++) {
            x.probe(7, 0, 0, 0, 0);
        }
        Kit.due("23 of the 24", x.weave(0), 3 + 46);
        Kit.due("the other", x.weave(1), 5);
    }

    private static void weaveBad() {
        ProbeLoom none = new ProbeLoom();
        Kit.due("no METHODS", none.weave(0), -2);
        ProbeLoom x = Kit.loomOf(0, 0, GIVE_ONE);
        for (int m : NO_METHODS) {
            Kit.due("METHOD " + m, x.weave(m), -2);
        }
        Kit.due("METHOD 0", x.weave(0), 3);
        ProbeLoom six = new ProbeLoom();
        for (int m = 0; m < 6; m++) {
            Kit.make(six, 0, 0, GIVE_ONE);
        }
        Kit.due("METHOD 5", six.weave(5), 3);
        Kit.due("METHOD 6", six.weave(6), -2);
    }

    private static void weaveFull() {
        // 130 gives: 390 bytes, one LEAVE makes them 390 + 260 + 3, two 390 + 520 + 5, three too many.
        ProbeLoom x = Kit.loomOf(0, 0, Kit.times(130, 1, 5, 42));
        for (int leaves = 1; leaves <= 2; leaves++) {
            x.probe(3, 0, 0, 0, 0);
            Kit.due(leaves + " LEAVE", x.weave(0), 390 + 262 * leaves + 1);
        }
        x.probe(3, 0, 0, 0, 0);
        Kit.due("three", x.weave(0), -3);
        Kit.due("bytes as they were", x.method(0, 6), 915);
        Kit.due("PADS as they were", x.method(0, 9), 1);
        Kit.due("HANDLERS as they were", x.method(0, 7), 1);
        Kit.dueHandler("HANDLER as it was", x, true, 0, 0, 910, 910, 0);
        Kit.due("moved as it was", x.moved(0, 389), 909);
        Kit.due("byte 910 as it was", x.octet(0, true, 910), 52);
        Kit.due("byte 914 as it was", x.octet(0, true, 914), 58);
        Kit.due("byte 915 as it was", x.octet(0, true, 915), -1);
        Kit.dueBoth("it runs as it was", x, 0, Kit.ab(0, 0, 9), Kit.ends(0, 5, 2), 0, 5, 1, 5);
        ProbeLoom y = Kit.loomOf(0, 0, Kit.times(130, 1, 5, 42));
        for (int p = 0; p < 24; p++) {
            y.probe(3, 0, 0, 0, 0);
        }
        Kit.due("24", y.weave(0), -3);
        Kit.due("not woven as it was not", y.method(0, 6), -1);
        Kit.dueBoth("it runs as it is", y, 0, Kit.ab(0, 0, 9), Kit.ends(0, 5, 2));
    }

    private static void unweave() {
        ProbeLoom x = Kit.loomOf(0, 0, Kit.bytes(1, 5, 42));
        Kit.make(x, 0, 0, Kit.bytes(1, 6, 42));
        x.probe(7, 0, 0, 9, 0);
        Kit.due("not woven", x.unweave(0), 0);
        x.weave(0);
        x.weave(1);
        Kit.due("woven", x.unweave(0), 1);
        Kit.due("not any more", x.unweave(0), 0);
        Kit.due("bytes", x.method(0, 6), -1);
        Kit.dueBoth("as it is", x, 0, Kit.ab(0, 0, 9), Kit.ends(0, 5, 2));
        Kit.due("the PROBE stays", x.count(1), 1);
        Kit.due("the other stays", x.unweave(1), 1);
        Kit.due("woven again", x.weave(0), 5);
        Kit.dueBoth("woven again", x, 0, Kit.ab(0, 0, 9), Kit.ends(0, 9, 2), 0, 5);
    }

    private static void unweaveBad() {
        Kit.due("no METHODS", new ProbeLoom().unweave(0), -2);
        ProbeLoom x = Kit.loomOf(0, 0, GIVE_ONE);
        x.weave(0);
        for (int m : NO_METHODS) {
            Kit.due("METHOD " + m, x.unweave(m), -2);
        }
        Kit.due("METHOD 0", x.unweave(0), 1);
    }
}
