/** '1 CODE': what a METHOD is told by, and where FAULTS are. */
final class TellingEdges {
    private static final int FORM = -11;
    private static final int JUMP = -12;
    private static final int HANDLER = -13;
    private static final int TYPES = -14;
    private static final int[] GIVE_ONE = {1, 1, 42};
    private static final int[] CAUGHT_GIVES = {1, 1, 42, 42};

    private TellingEdges() {
    }

    static void all(Edges edges) {
        edges.test("An object is used for at most 512 calls after it has been made; what later calls answer is free.",
                TellingEdges::calls512);
        edges.test("Numbers of 16 and 32 bits stand with the highest byte first", TellingEdges::highestFirst);
        edges.test("8, 16, 32 bits have a sign where s8, s16, s32 is told.", TellingEdges::signs);
        edges.test("INTS have 32 bits and wrap.", TellingEdges::wrap);
        edges.test("A ROW is an array of INTS.", TellingEdges::rowOfInts);
        edges.test("A METHOD is told by the TAPE's bytes: ARGUMENTS (1 byte, 0 .. 4, all INTS)", TellingEdges::arguments);
        edges.test("LOCALS (1, ARGUMENTS .. 12)", TellingEdges::locals);
        edges.test("LENGTH (2, 1 .. 400), so many bytes of CODE", TellingEdges::length);
        edges.test("HANDLERS (1, 0 .. 8)", TellingEdges::handlers);
        edges.test("each: FROM, TO, TARGET (2 each), KIND (1, 0: of any)", TellingEdges::handlerParts);
        edges.test("no more.", TellingEdges::noMore);
        edges.test("METHODS are numbered 0 .. 5 as they come.", TellingEdges::numbers);
        faults(edges);
    }

    private static void faults(Edges edges) {
        edges.free("FAULTS:", "a heading");
        edges.test("1 FORM: the first byte that is not as told", TellingEdges::firstByte);
        edges.test("an OP that there is not", TellingEdges::noSuchOp);
        edges.test("a LOCAL, FIELD, METHOD, n that is none", TellingEdges::noSuchOperand);
        edges.test("LENGTH: its first byte", TellingEdges::lengthFault);
        edges.test("an INSTRUCTION that goes beyond LENGTH: its OP, ahead of its operands", TellingEdges::beyondLength);
        edges.test("(but a table's n, if that is within LENGTH, is looked at first)", TellingEdges::tableBeyondLength);
        edges.test("one byte too much behind all", TellingEdges::tooMuch);
        edges.test("the TAPE's length, if some lack).", TellingEdges::lacking);
        edges.test("Else 2 JUMP: the place on the TAPE of the OP of the first INSTRUCTION with a jump to what is no "
                + "beginning of one (in the CODE).", TellingEdges::jumpFault);
        edges.test("Else 3 HANDLER: that of the first byte of the first HANDLER whose FROM, TO, TARGET are not "
                + "beginnings", TellingEdges::handlerFault);
        edges.test("(TO may be LENGTH)", TellingEdges::toLength);
        edges.test("or FROM is not below TO.", TellingEdges::fromBelowTo);
        edges.test("Else 4 TYPES, at place 0.", TellingEdges::typesFault);
    }

    private static int[] tell(int... code) {
        return Kit.tell(1, 2, code, Kit.NO_HANDLERS);
    }

    private static void calls512() {
        ProbeLoom x = new ProbeLoom();
        x.feed(0x00000003, 0x01072A00, 0, 0, 0);
        x.cut(12);
        x.make();
        x.probe(0, 0, 0, 0, 0);
        x.weave(0);
        for (int call = 6; call <= 510; call++) {
            Kit.due("call " + call, x.run(call % 3, 0, 0, 0, 3000), 0);
        }
        Kit.due("call 511", x.count(3), 505);
        Kit.due("call 512", x.told(1, 4), 1);
    }

    private static void highestFirst() {
        ProbeLoom x = new ProbeLoom();
        // LENGTH 0x0105: 255 nops, push s32, give; HANDLER 0x0100 .. 0x0105 to 0x0104.
        int[] code = Kit.join(Kit.times(255, 0), Kit.word(0x01020304), Kit.bytes(42));
        Kit.feed(x, Kit.join(Kit.bytes(0, 0, 1, 5), code, Kit.bytes(1, 0, 255, 1, 5, 1, 4, 9)));
        Kit.due("make", x.make(), 0);
        Kit.due("LENGTH", x.method(0, 2), 261);
        Kit.dueHandler("FROM, TO, TARGET", x, false, 0, 255, 261, 260, 9);
        Kit.dueEnd("push s32", x, 0, Kit.ab(0, 0, 3000), 0, 0x01020304);
        // s16: 84 by 0x0102 bytes.
        ProbeLoom y = Kit.loomOf(0, 0, Kit.join(Kit.bytes(84, 1, 2), Kit.times(255, 0), GIVE_ONE));
        Kit.dueEnd("a jump s16", y, 0, Kit.ab(0, 0, 3), 0, 1);
        Kit.due("it leads over all", y.told(0, 2), 3);
    }

    private static void signs() {
        int[][] pushes = {{0, 0}, {127, 127}, {128, -128}, {255, -1}};
        for (int[] p : pushes) {
            Kit.dueEnd("push s8 " + p[0], Kit.loomOf(0, 0, Kit.bytes(1, p[0], 42)), 0, Kit.ab(0, 0, 9), 0, p[1]);
            ProbeLoom inc = Kit.loomOf(1, 1, Kit.bytes(5, 0, p[0], 3, 0, 42));
            Kit.dueEnd("inc s8 " + p[0], inc, 0, Kit.ab(0, 0, 9), 0, p[1]);
        }
        int[] words = {Integer.MIN_VALUE, -1, 0, Integer.MAX_VALUE, 0x00800000, 0x00008000, 0x00000080};
        for (int w : words) {
            ProbeLoom x = Kit.loomOf(0, 0, Kit.join(Kit.word(w), Kit.bytes(42)));
            Kit.dueEnd("push s32 " + w, x, 0, Kit.ab(0, 0, 9), 0, w);
        }
        // s16 back over 300 bytes: there the ARGUMENT is given.
        ProbeLoom back = Kit.loomOf(1, 1, Kit.join(Kit.bytes(84, 1, 47, 3, 0, 42), Kit.times(297, 0),
                Kit.bytes(84, 254, 212)));
        Kit.dueEnd("a jump s16 back", back, 0, Kit.ab(6, 0, 4), 0, 6);
        // What is told without s has none: KIND 200, FROM 128 and 200.
        ProbeLoom high = Kit.loomOf(0, 0, Kit.join(Kit.times(200, 0), GIVE_ONE, Kit.bytes(42)),
                new int[] {128, 200, 203, 200});
        Kit.dueHandler("no sign", high, false, 0, 128, 200, 203, 200);
        Kit.due("octets have none", back.octet(0, false, 304), 254);
    }

    private static void wrap() {
        int min = Integer.MIN_VALUE;
        int max = Integer.MAX_VALUE;
        int[][] sums = {{9, max, 1, min}, {9, min, min, 0}, {9, min, -1, max}, {10, min, 1, max}, {10, 0, min, min},
            {11, 65536, 65536, 0}, {11, min, -1, min}, {11, max, max, 1}, {11, 46341, 46341, -2147479015}};
        for (int[] s : sums) {
            ProbeLoom x = Kit.loomOf(2, 2, Kit.bytes(3, 0, 3, 1, s[0], 42));
            Kit.dueEnd(s[0] + " of " + s[1] + ", " + s[2], x, 0, Kit.ab(s[1], s[2], 9), 0, s[3]);
        }
        ProbeLoom inc = Kit.loomOf(1, 1, Kit.bytes(5, 0, 127, 3, 0, 42));
        Kit.dueEnd("inc over the most", inc, 0, Kit.ab(max, 0, 9), 0, min + 126);
        ProbeLoom dec = Kit.loomOf(1, 1, Kit.bytes(5, 0, 128, 3, 0, 42));
        Kit.dueEnd("inc below the least", dec, 0, Kit.ab(min, 0, 9), 0, max - 127);
    }

    private static void rowOfInts() {
        // A ROW of 2 in LOCAL 1: INT 0 gets a, INT 1 gets b; answers INT 0 less INT 1.
        ProbeLoom x = Kit.loomOf(2, 3, Kit.bytes(1, 2, 36, 4, 2, 3, 2, 1, 0, 3, 0, 39, 3, 2, 1, 1, 3, 1, 39,
                3, 2, 1, 0, 38, 43, 3, 2, 1, 1, 38, 42));
        int[] some = {Integer.MIN_VALUE, Integer.MAX_VALUE, 0, -1};
        for (int a : some) {
            Kit.dueEnd("INT 1", x, 0, Kit.ab(a, ~a, 99), 0, ~a);
            Kit.due("INT 0", x.mark(0, 0), a);
        }
    }

    private static void arguments() {
        for (int n = 0; n <= 4; n++) {
            Kit.dueMade(n + " ARGUMENTS", 0, -1, Kit.tell(n, 12, GIVE_ONE, Kit.NO_HANDLERS));
        }
        int[] wrong = {5, 6, 12, 127, 128, 255};
        for (int n : wrong) {
            Kit.dueMade(n + " ARGUMENTS", FORM, 0, Kit.tell(n, 12, GIVE_ONE, Kit.NO_HANDLERS));
        }
        ProbeLoom x = Kit.loomOf(4, 4, Kit.bytes(3, 0, 3, 1, 9, 3, 2, 9, 3, 3, 9, 42));
        for (int n = 1; n <= 4; n++) {
            Kit.due("an INT", x.type(0, 0, n), 1);
        }
    }

    private static void locals() {
        for (int n = 0; n <= 4; n++) {
            Kit.dueMade("as many LOCALS as ARGUMENTS: " + n, 0, -1, Kit.tell(n, n, GIVE_ONE, Kit.NO_HANDLERS));
        }
        for (int n = 1; n <= 4; n++) {
            Kit.dueMade("one LOCAL fewer than " + n, FORM, 1, Kit.tell(n, n - 1, GIVE_ONE, Kit.NO_HANDLERS));
        }
        Kit.dueMade("12 LOCALS", 0, -1, Kit.tell(0, 12, GIVE_ONE, Kit.NO_HANDLERS));
        Kit.dueMade("13 LOCALS", FORM, 1, Kit.tell(0, 13, GIVE_ONE, Kit.NO_HANDLERS));
        Kit.dueMade("255 LOCALS", FORM, 1, Kit.tell(4, 255, GIVE_ONE, Kit.NO_HANDLERS));
    }

    private static void length() {
        Kit.dueMade("LENGTH 0", FORM, 2, 0, 0, 0, 0, 0);
        // No single byte is a METHOD, but LENGTH 1 is as told: the FAULT is another one.
        Kit.dueMade("LENGTH 1", TYPES, 0, Kit.tell(0, 0, Kit.bytes(42), Kit.NO_HANDLERS));
        Kit.dueMade("LENGTH 2", 0, -1, Kit.tell(0, 0, Kit.bytes(20, 0), Kit.NO_HANDLERS));
        int[] some = {255, 256, 257, 399, 400};
        for (int n : some) {
            ProbeLoom x = Kit.loomOf(0, 0, Kit.join(Kit.times(n - 3, 0), GIVE_ONE));
            Kit.due("LENGTH " + n, x.method(0, 2), n);
            Kit.due("the last of " + n, x.octet(0, false, n - 1), 42);
            Kit.dueEnd("LENGTH " + n, x, 0, Kit.ab(0, 0, n - 1), 0, 1);
        }
        Kit.dueMade("LENGTH 401", FORM, 2, Kit.tell(0, 0, Kit.join(Kit.times(398, 0), GIVE_ONE), Kit.NO_HANDLERS));
        Kit.dueMade("LENGTH 512", FORM, 2, Kit.tell(0, 0, Kit.join(Kit.times(509, 0), GIVE_ONE), Kit.NO_HANDLERS));
        Kit.dueMade("LENGTH 32769", FORM, 2, 0, 0, 128, 1, 42, 0);
        Kit.dueMade("LENGTH 65535", FORM, 2, 0, 0, 255, 255, 42, 0);
    }

    private static int[][] many(int handlers) {
        int[][] all = new int[handlers][];
        for (int k = 0; k < handlers; k++) {
            all[k] = new int[] {0, 3, 3, k + 1};
        }
        return all;
    }

    private static void handlers() {
        for (int n = 0; n <= 8; n++) {
            ProbeLoom x = Kit.loomOf(0, 0, CAUGHT_GIVES, many(n));
            Kit.due("HANDLERS", x.method(0, 3), n);
            Kit.due("the last one's KIND", x.handler(0, false, n - 1, 3), n == 0 ? -1 : n);
        }
        Kit.dueMade("9 HANDLERS", FORM, 8, Kit.tell(0, 0, CAUGHT_GIVES, many(9)));
        Kit.dueMade("255 HANDLERS", FORM, 8, Kit.join(Kit.bytes(0, 0, 0, 4), CAUGHT_GIVES, Kit.bytes(255)));
    }

    private static void handlerParts() {
        // throw a; what is caught is given, and 5 is marked.
        int[] code = {3, 0, 41, 1, 5, 43, 42};
        int[] kinds = {1, 50, 99, 100};
        for (int kind : kinds) {
            ProbeLoom any = Kit.loomOf(1, 1, code, new int[] {0, 3, 3, 0});
            Kit.dueEnd("0 is of any", any, 0, Kit.ab(kind, 0, 9), 0, kind);
            ProbeLoom own = Kit.loomOf(1, 1, code, new int[] {0, 3, 3, kind});
            Kit.dueEnd("its own", own, 0, Kit.ab(kind, 0, 9), 0, kind);
            ProbeLoom other = Kit.loomOf(1, 1, code, new int[] {0, 3, 3, kind + 1}, new int[] {0, 3, 3, kind - 1 == 0
                    ? 255 : kind - 1});
            Kit.dueEnd("others", other, 0, Kit.ab(kind, 0, 9), 1, kind);
        }
        int[] div = {1, 1, 3, 0, 12, 42, 42};
        Kit.dueEnd("0 is of 101 too", Kit.loomOf(1, 1, div, new int[] {0, 6, 6, 0}), 0, Kit.ab(0, 0, 9), 0, 101);
        Kit.dueEnd("101", Kit.loomOf(1, 1, div, new int[] {0, 6, 6, 101}), 0, Kit.ab(0, 0, 9), 0, 101);
        Kit.dueEnd("255 is of none", Kit.loomOf(1, 1, div, new int[] {0, 6, 6, 255}), 0, Kit.ab(0, 0, 9), 1, 101);
        // Each of the three above 255, so that both its bytes matter.
        ProbeLoom far = Kit.loomOf(1, 1, Kit.join(Kit.times(300, 0), Kit.bytes(3, 0, 41, 42)),
                new int[] {302, 303, 303, 7});
        Kit.dueHandler("far", far, false, 0, 302, 303, 303, 7);
        Kit.dueEnd("far", far, 0, Kit.ab(7, 0, 400), 0, 7);
    }

    private static void noMore() {
        Kit.dueMade("no HANDLERS, one byte", FORM, 8, Kit.join(tell(GIVE_ONE), Kit.bytes(0)));
        Kit.dueMade("8 HANDLERS, one byte", FORM, 65,
                Kit.join(Kit.tell(0, 0, CAUGHT_GIVES, many(8)), Kit.bytes(0)));
        Kit.dueMade("8 HANDLERS", 0, -1, Kit.tell(0, 0, CAUGHT_GIVES, many(8)));
        Kit.dueMade("up to 600 bytes: the first of them", FORM, 8, Kit.join(tell(GIVE_ONE), Kit.times(592, 255)));
    }

    private static void numbers() {
        ProbeLoom x = new ProbeLoom();
        for (int m = 0; m < 6; m++) {
            Kit.due("a FAULT has no number", Kit.make(x, 0, 0, Kit.bytes(42)), TYPES);
            Kit.due("number", Kit.make(x, 0, 0, Kit.bytes(1, 10 + m, 42)), m);
        }
        for (int m = 0; m < 6; m++) {
            Kit.dueEnd("METHOD " + m, x, m, Kit.ab(0, 0, 9), 0, 10 + m);
        }
        Kit.due("no seventh", Kit.make(x, 0, 0, GIVE_ONE), -3);
        Kit.due("none of number 6", x.method(6, 0), -2);
    }

    private static void firstByte() {
        Kit.dueMade("ARGUMENTS ahead of LOCALS", FORM, 0, 5, 13, 1, 1, 42, 0);
        Kit.dueMade("LOCALS ahead of LENGTH", FORM, 1, 0, 13, 0, 0, 0);
        Kit.dueMade("LENGTH ahead of the CODE", FORM, 2, 0, 0, 2, 0, 44, 9);
        Kit.dueMade("an OP ahead of another", FORM, 5, tell(0, 44, 45, 42));
        Kit.dueMade("an operand ahead of an OP", FORM, 5, tell(3, 2, 44, 42));
        Kit.dueMade("an OP ahead of an operand", FORM, 5, tell(0, 44, 3, 2));
        Kit.dueMade("the CODE ahead of HANDLERS", FORM, 6, 0, 0, 0, 3, 0, 0, 44, 9);
        Kit.dueMade("HANDLERS ahead of what lacks", FORM, 7, 0, 0, 0, 3, 1, 1, 42, 9);
        Kit.dueMade("the CODE ahead of one too much", FORM, 6, Kit.join(tell(0, 0, 44), Kit.bytes(0)));
        Kit.dueMade("the CODE ahead of what lacks", FORM, 5, 0, 0, 0, 9, 0, 44, 0);
        // The last byte that is there may be the first that is wrong.
        Kit.dueMade("ARGUMENTS, and no more", FORM, 0, 5);
        Kit.dueMade("LOCALS, and no more", FORM, 1, 0, 13);
        Kit.dueMade("LOCALS, and half of LENGTH", FORM, 1, 3, 2, 0);
        Kit.dueMade("an OP, and no more", FORM, 5, 0, 1, 0, 9, 0, 44);
        Kit.dueMade("a LOCAL, and no more", FORM, 5, 0, 1, 0, 9, 3, 1);
        Kit.dueMade("a LOCAL of inc, and no more", FORM, 5, 0, 1, 0, 9, 5, 1);
        Kit.dueMade("n of a table, and no more", FORM, 7, 0, 1, 0, 9, 1, 1, 33, 17);
        Kit.dueMade("HANDLERS, and no more", FORM, 7, 0, 1, 0, 3, 1, 1, 42, 9);
    }

    private static void noSuchOp() {
        for (int op = 0; op < 256; op++) {
            boolean there = op <= 43 || op >= 84 && op <= 96;
            ProbeLoom x = new ProbeLoom();
            // Behind a give, with bytes enough for any operands: only the FORM matters.
            Kit.feed(x, Kit.tell(1, 1, Kit.join(GIVE_ONE, Kit.bytes(op, op == 33 ? 1 : 0), Kit.times(8, 0)),
                    Kit.NO_HANDLERS));
            int made = x.make();
            Kit.due("OP " + op + " is one", (made != FORM) == there);
            Kit.due("place of OP " + op, there || x.place() == 7);
        }
    }

    private static void noSuchOperand() {
        int[] ops = {3, 4, 5};
        for (int op : ops) {
            for (int locals = 0; locals <= 12; locals++) {
                int[] code = Kit.join(GIVE_ONE, Kit.bytes(op, locals, 0, 0));
                Kit.dueMade(op + " of LOCAL " + locals, FORM, 8, Kit.tell(0, locals, code, Kit.NO_HANDLERS));
                code[4] = locals - 1;
                if (locals > 0) {
                    Kit.dueMade(op + " of the last LOCAL", 0, -1, Kit.tell(0, locals, code, Kit.NO_HANDLERS));
                }
            }
            Kit.dueMade(op + " of LOCAL 255", FORM, 8, tell(1, 1, 42, op, 255, 0));
        }
        for (int op = 34; op <= 35; op++) {
            Kit.dueMade(op + " of FIELD 7", 0, -1, tell(1, 1, 42, op, 7));
            Kit.dueMade(op + " of FIELD 8", FORM, 8, tell(1, 1, 42, op, 8));
            Kit.dueMade(op + " of FIELD 255", FORM, 8, tell(1, 1, 42, op, 255));
        }
        Kit.dueMade("METHOD 0, which is told", 0, -1, tell(1, 1, 42, 40, 0));
        Kit.dueMade("METHOD 1", FORM, 8, tell(1, 1, 42, 40, 1));
        Kit.dueMade("METHOD 255", FORM, 8, tell(1, 1, 42, 40, 255));
        Kit.dueMade("n 0 of a table", FORM, 8, tell(1, 1, 42, 33, 0, 0, 0, 0, 0));
        Kit.dueMade("n 17 of a table", FORM, 8, tell(Kit.join(Kit.bytes(1, 1, 42, 33, 17), Kit.times(36, 0))));
        Kit.dueMade("n 16 of a table", 0, -1, tell(Kit.join(Kit.bytes(1, 1, 42, 33, 16), Kit.times(34, 0))));
    }

    private static void lengthFault() {
        // 401 is 1, 145: its first byte is told, though 1 may well stand there.
        Kit.dueMade("401", FORM, 2, Kit.join(Kit.bytes(0, 0, 1, 145), Kit.times(401, 0), Kit.bytes(0)));
        Kit.dueMade("0", FORM, 2, 0, 0, 0, 0, 0);
        Kit.dueMade("0, and no more", FORM, 2, 0, 0, 0, 0);
    }

    private static void beyondLength() {
        int[][] codes = {{1, 0}, {2, 0, 0, 0, 0}, {3, 9}, {4, 9}, {5, 9, 0}, {20, 99}, {26, 99}, {32, 99}, {34, 9},
            {35, 9}, {40, 9}, {84, 9, 9}, {96, 9, 9}};
        for (int[] code : codes) {
            for (int kept = 1; kept < code.length; kept++) {
                int[] less = Kit.join(GIVE_ONE, java.util.Arrays.copyOf(code, kept));
                Kit.dueMade("OP " + code[0] + " with " + kept + " bytes", FORM, 7, tell(less));
                // Nor do bytes behind LENGTH help: they are the HANDLERS.
                Kit.dueMade("OP " + code[0] + " and bytes behind", FORM, 7, Kit.join(tell(less), Kit.times(8, 0)));
            }
        }
        Kit.dueMade("just within LENGTH", 0, -1, tell(1, 1, 42, 2, 0, 0, 0, 0));
    }

    private static void tableBeyondLength() {
        Kit.dueMade("n 0 within", FORM, 8, tell(1, 1, 42, 33, 0));
        Kit.dueMade("n 17 within", FORM, 8, tell(1, 1, 42, 33, 17));
        Kit.dueMade("n 255 within", FORM, 8, tell(1, 1, 42, 33, 255, 0));
        Kit.dueMade("n is not within", FORM, 7, tell(1, 1, 42, 33));
        Kit.dueMade("n 1 within, the rest not", FORM, 7, tell(1, 1, 42, 33, 1));
        Kit.dueMade("n 1 within, one byte of the rest not", FORM, 7, tell(1, 1, 42, 33, 1, 0, 0, 0));
        Kit.dueMade("all of n 1 within", 0, -1, tell(1, 1, 42, 33, 1, 0, 0, 0, 0));
        Kit.dueMade("n 16 within, one byte of the rest not", FORM, 7,
                tell(Kit.join(Kit.bytes(1, 1, 42, 33, 16), Kit.times(33, 0))));
    }

    private static void tooMuch() {
        int[] one = tell(GIVE_ONE);
        Kit.dueMade("none too much", 0, -1, one);
        for (int more = 1; more <= 20; more++) {
            Kit.dueMade(more + " too much", FORM, one.length, Kit.join(one, Kit.times(more, 42)));
        }
        // It is one byte too much behind a HANDLER as well, and ahead of a FAULT 3.
        int[] with = Kit.tell(0, 0, CAUGHT_GIVES, new int[][] {{0, 0, 9, 0}});
        Kit.dueMade("behind a HANDLER", FORM, with.length, Kit.join(with, Kit.bytes(0)));
    }

    private static void lacking() {
        // 1 ARGUMENT, 2 LOCALS; inc, push s32, table, push, give; two HANDLERS.
        int[] whole = Kit.tell(1, 2, Kit.bytes(5, 0, 1, 2, 0, 0, 0, 1, 33, 1, 0, 6, 0, 6, 1, 3, 42, 42),
                new int[][] {{0, 3, 17, 0}, {0, 18, 17, 9}});
        Kit.dueMade("whole", 0, -1, whole);
        for (int length = 0; length < whole.length; length++) {
            Kit.dueMade(length + " bytes", FORM, length, java.util.Arrays.copyOf(whole, length));
        }
        // n of a table lacks, so that it does not matter what stood there before it was cut.
        int[] stood = {0, 1, 16, 17};
        for (int n : stood) {
            ProbeLoom x = new ProbeLoom();
            Kit.feed(x, 0, 1, 0, 9, 1, 1, 33, n, 0, 0);
            x.cut(3);
            Kit.due("n " + n + " was cut: make", x.make(), FORM);
            Kit.due("n " + n + " was cut: place", x.place(), 7);
        }
        // Nor does it matter that what was cut would be just what lacks.
        for (int length = 0; length < whole.length; length++) {
            ProbeLoom x = new ProbeLoom();
            Kit.feed(x, whole);
            x.cut(whole.length - length);
            Kit.due(length + " bytes are left: make", x.make(), FORM);
            Kit.due(length + " bytes are left: place", x.place(), length);
        }
    }

    private static void jumpFault() {
        // 0 nop, 1 jump, then push, give: one may not jump to the give, but that is of TYPES.
        for (int to = -1; to <= 8; to++) {
            int far = to - 1;
            dueJump(to, new int[] {0, 1, 3}, 5, tell(0, 20, far, 1, 1, 42));
            dueJump(to, new int[] {0, 1, 4}, 6, tell(0, 84, far >> 8, far, 1, 1, 42));
        }
        Kit.dueMade("to LENGTH", JUMP, 4, tell(20, 2));
        Kit.dueMade("127 on", JUMP, 4, tell(20, 127, 1, 1, 42));
        Kit.dueMade("128 back", JUMP, 5, tell(0, 20, 128, 1, 1, 42));
        Kit.dueMade("32767 on", JUMP, 4, tell(84, 127, 255, 1, 1, 42));
        Kit.dueMade("32768 back", JUMP, 4, tell(84, 128, 0, 1, 1, 42));
        Kit.dueMade("the first of two", JUMP, 5, tell(0, 20, 1, 20, 1, 1, 1, 42));
        Kit.dueMade("a jump that can't be come to", JUMP, 7, tell(1, 1, 42, 20, 1));
        // Each number of a table; the last is at fault in the last.
        for (int k = 0; k <= 3; k++) {
            int[] code = {1, 1, 33, 3, 0, 10, 0, 10, 0, 10, 0, 10, 1, 1, 42};
            code[5 + 2 * k] = 11;
            Kit.dueMade("number " + k + " of a table", JUMP, 6, tell(code));
        }
        // A place that began an INSTRUCTION of an earlier TAPE begins none of this one.
        ProbeLoom x = new ProbeLoom();
        Kit.due("first", Kit.make(x, 0, 0, Kit.bytes(0, 0, 0, 0, 42)), TYPES);
        Kit.due("second", Kit.make(x, 0, 0, Kit.bytes(20, 3, 1, 1, 42)), JUMP);
        Kit.due("its place", x.place(), 4);
    }

    private static void dueJump(int to, int[] well, int give, int[] tape) {
        int fault = to == give ? TYPES : JUMP;
        for (int place : well) {
            fault = place == to ? 0 : fault;
        }
        Kit.dueMade("to " + to, fault, fault == 0 ? -1 : fault == JUMP ? 5 : 0, tape);
    }

    private static void handlerFault() {
        // Beginnings: 0, 2, 3; LENGTH is 4.
        int[][] wrong = {{1, 3, 3}, {4, 4, 3}, {5, 4, 3}, {65535, 4, 3}, {0, 1, 3}, {0, 5, 3}, {0, 65535, 3},
            {0, 3, 1}, {0, 3, 4}, {0, 3, 5}, {0, 3, 65535}, {0, 3, 259}, {256, 259, 3}};
        for (int[] h : wrong) {
            int[] handler = {h[0], h[1], h[2], 0};
            String what = h[0] + ".." + h[1] + " to " + h[2];
            Kit.dueMade(what, HANDLER, 9, Kit.tell(0, 0, CAUGHT_GIVES, new int[][] {handler}));
            Kit.dueMade(what + " twice", HANDLER, 9, Kit.tell(0, 0, CAUGHT_GIVES, new int[][] {handler, handler}));
            int[][] eight = many(8);
            eight[7] = handler;
            Kit.dueMade(what + " as the eighth", HANDLER, 58, Kit.tell(0, 0, CAUGHT_GIVES, eight));
        }
        Kit.dueMade("JUMP goes ahead", JUMP, 4, Kit.tell(0, 0, Kit.bytes(20, 1, 1, 1, 42), new int[][] {{1, 0, 9, 0}}));
    }

    private static void toLength() {
        Kit.dueMade("TO is LENGTH", 0, -1, Kit.tell(0, 0, CAUGHT_GIVES, new int[][] {{0, 4, 3, 0}}));
        Kit.dueMade("TO is LENGTH and one", HANDLER, 9, Kit.tell(0, 0, CAUGHT_GIVES, new int[][] {{0, 5, 3, 0}}));
        Kit.dueMade("FROM is LENGTH", HANDLER, 9, Kit.tell(0, 0, CAUGHT_GIVES, new int[][] {{4, 4, 3, 0}}));
        Kit.dueMade("TARGET is LENGTH", HANDLER, 9, Kit.tell(0, 0, CAUGHT_GIVES, new int[][] {{0, 4, 4, 0}}));
        // The last INSTRUCTION is within.
        ProbeLoom x = Kit.loomOf(1, 1, Kit.bytes(3, 0, 20, 3, 42, 41), new int[] {0, 6, 4, 0});
        Kit.dueEnd("caught at the last", x, 0, Kit.ab(7, 0, 9), 0, 7);
        int[] longest = Kit.join(Kit.times(396, 0), CAUGHT_GIVES);
        Kit.dueMade("400", 0, -1, Kit.tell(0, 0, longest, new int[][] {{0, 400, 399, 0}}));
        Kit.dueMade("401", HANDLER, 405, Kit.tell(0, 0, longest, new int[][] {{0, 401, 399, 0}}));
    }

    private static void fromBelowTo() {
        Kit.dueMade("FROM is TO", HANDLER, 9, Kit.tell(0, 0, CAUGHT_GIVES, new int[][] {{2, 2, 3, 0}}));
        Kit.dueMade("FROM is TO at 0", HANDLER, 9, Kit.tell(0, 0, CAUGHT_GIVES, new int[][] {{0, 0, 3, 0}}));
        Kit.dueMade("FROM is above TO", HANDLER, 9, Kit.tell(0, 0, CAUGHT_GIVES, new int[][] {{3, 2, 3, 0}}));
        Kit.dueMade("FROM is just below TO", 0, -1, Kit.tell(0, 0, CAUGHT_GIVES, new int[][] {{2, 3, 3, 0}}));
        Kit.dueMade("the last alone", 0, -1, Kit.tell(0, 0, CAUGHT_GIVES, new int[][] {{3, 4, 3, 0}}));
    }

    private static void typesFault() {
        Kit.dueMade("at 0 in any case", TYPES, 0, tell(0, 0, 0, 42));
        Kit.dueMade("HANDLER goes ahead", HANDLER, 9, Kit.tell(0, 0, Kit.bytes(0, 0, 0, 42), new int[][] {{0, 0, 0, 0}}));
        Kit.dueMade("FORM goes ahead", FORM, 8, tell(0, 0, 0, 42, 44));
        Kit.dueMade("JUMP goes ahead", JUMP, 8, tell(0, 0, 0, 42, 20, 1));
    }
}
