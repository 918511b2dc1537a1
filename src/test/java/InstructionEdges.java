/** '1 CODE': each INSTRUCTION at the edges of what it takes. */
final class InstructionEdges {
    private static final int MIN = Integer.MIN_VALUE;
    private static final int MAX = Integer.MAX_VALUE;
    private static final int TYPES = -14;

    private InstructionEdges() {
    }

    static void all(Edges edges) {
        edges.test("The CODE is INSTRUCTIONS one behind the other: an OP (1 byte), operands; what it takes off the "
                + "STACK and puts on it (the last one on top), i j k INTS, a a ROW, v w any: 0 nop;",
                InstructionEdges::oneBehindTheOther);
        edges.test("1 push s8, 2 push s32 (: i);", InstructionEdges::push);
        edges.test("3 load n (: v), 4 store n (v :), n a LOCAL;", InstructionEdges::loadStore);
        edges.test("5 inc n s8: LOCAL n, an INT, gets that more;", InstructionEdges::inc);
        edges.test("6 dup (v : v v), 7 pop (v :), 8 swap (v w : w v);", InstructionEdges::dupPopSwap);
        edges.test("9 add, 10 sub, 11 mul, 12 div, 13 rem (both cut towards 0; by 0: throws 101)",
                InstructionEdges::sums);
        edges.test("14 and, 15 or, 16 xor, 17 shl, 18 shr (by the lowest 5 bits, with sign) (i j : k);",
                InstructionEdges::bits);
        edges.test("19 neg (i : j);", InstructionEdges::neg);
        edges.test("20 jump s8;", InstructionEdges::jump);
        edges.test("21 .. 26 s8 (i :) jumps if i is 0, is not 0, is below, is not below, is above, is not above 0;",
                InstructionEdges::choices);
        edges.test("27 .. 32 s8 (i j :) likewise by i and j: equal, unlike, below, not below, above, not above;",
                InstructionEdges::choicesByTwo);
        edges.test("33 table n (1 byte, 1 .. 16), s16, n times s16 (i :) jumps by the one at i, from 0, of the n, "
                + "if i is 0 .. n - 1, else by the first;", InstructionEdges::table);
        edges.test("34 get f (: i), 35 put f (i :), f a FIELD 0 .. 7;", InstructionEdges::fields);
        edges.test("36 row (i : a) a new ROW of i INTS 0 (i not 0 .. 50: throws 103;", InstructionEdges::row);
        edges.test("the 31st of a RUN: throws 104);", InstructionEdges::row31);
        edges.test("37 size (a : i);", InstructionEdges::size);
        edges.test("38 take (a i : j), 39 lay (a i j :) INT i of a (none such: throws 102);",
                InstructionEdges::takeLay);
        edges.test("40 call m (as many INTS as its ARGUMENTS : i);", InstructionEdges::call);
        edges.test("41 throw (i :) throws KIND i, if that is 1 .. 99, else 100;", InstructionEdges::throwing);
        edges.test("42 give (i :) the METHOD answers i; 43 mark (i :).", InstructionEdges::giveMark);
        edges.test("84 .. 96 are 20 .. 32 with s16 for s8.", InstructionEdges::longJumps);
        edges.test("A jump leads so many bytes behind the first byte of its INSTRUCTION.",
                InstructionEdges::behindFirstByte);
        edges.test("n, f, m are 1 byte; m is a METHOD that is there, or the one that is told.",
                InstructionEdges::whichMethods);
    }

    /** A METHOD of no ARGUMENTS and 3 LOCALS: the code, then give. */
    private static void answers(String what, int answer, int... code) {
        Kit.dueEnd(what, Kit.loomOf(0, 3, Kit.join(code, Kit.bytes(42))), 0, Kit.ab(0, 0, 3000), 0, answer);
    }

    private static void throwsAt(String what, ProbeLoom x, int a, int b, int kind, int place) {
        Kit.dueEnd(what, x, 0, Kit.ab(a, b, 3000), 1, kind);
        for (int manner = 0; manner <= 2; manner++) {
            Kit.due(what + ": place", x.told(manner, 6), place);
        }
    }

    private static void wrongTypes(String what, int... code) {
        Kit.dueMade(what, TYPES, 0, Kit.tell(1, 3, code, Kit.NO_HANDLERS));
    }

    private static ProbeLoom ofTwo(int op) {
        return Kit.loomOf(2, 2, Kit.bytes(3, 0, 3, 1, op, 42));
    }

    private static void oneBehindTheOther() {
        answers("operands are no OPs", 42, 0, 1, 42, 0);
        answers("the last one is on top", 3, 1, 5, 1, 2, 10);
        ProbeLoom x = Kit.loomOf(0, 0, Kit.join(Kit.times(397, 0), Kit.bytes(1, 4, 42)));
        Kit.due("399 INSTRUCTIONS", x.method(0, 4), 399);
        Kit.dueEnd("as many nops as there can be", x, 0, Kit.ab(0, 0, 399), 0, 4);
        Kit.due("each is a STEP", x.told(0, 2), 399);
        int[][] alone = {{0}, {1, 7, 7}, {2, 0, 0, 0, 7, 7}, {3, 0, 7}, {1, 7, 4, 1}, {5, 0, 7}, {1, 7, 6, 7, 7}, {1, 7, 7},
            {1, 7, 1, 8, 8, 7, 7}, {1, 7, 19, 7}, {20, 2}, {84, 0, 3}, {1, 7, 33, 1, 0, 6, 0, 6}, {1, 0, 33, 1, 0, 6, 0, 6},
            {34, 0, 7}, {1, 7, 35, 0}, {1, 7, 36, 7}, {1, 7, 36, 37, 7}, {1, 7, 36, 1, 6, 38, 7}, {1, 7, 36, 1, 6, 1, 5, 39},
            {1, 7, 43}};
        for (int[] code : alone) {
            dueHeight(code);
        }
        for (int op = 9; op <= 18; op++) {
            dueHeight(1, 7, 1, 5, op, 7);
        }
        for (int op = 21; op <= 32; op++) {
            for (int value = 6; value <= 8; value++) {
                int[] takes = op < 27 ? Kit.bytes(1, value - 7) : Kit.bytes(1, value, 1, 7);
                dueHeight(Kit.join(takes, Kit.bytes(op, 2)));
                dueHeight(Kit.join(takes, Kit.bytes(op + 64, 0, 3)));
            }
        }
    }

    /** Behind what leaves the STACK empty there is room for ten, woven and moved as well. */
    private static void dueHeight(int... code) {
        ProbeLoom x = Kit.loomOf(1, 2, Kit.join(code, Kit.times(10, 1, 1), Kit.times(9, 9), Kit.bytes(42)));
        x.probe(2, 0, 0, 0, 0);
        x.weave(0);
        Kit.dueEnd("ten behind OP " + code[code.length > 2 ? 2 : 0], x, 0, Kit.ab(3, 0, 99), 0, 10);
    }

    private static void push() {
        for (int value = -128; value <= 127; value += 51) {
            answers("push s8 " + value, value, 1, value);
        }
        int[] words = {MIN, MIN + 1, -32769, -129, -1, 0, 1, 128, 32768, MAX};
        for (int w : words) {
            answers("push s32 " + w, w, Kit.word(w));
        }
        // Up to the tenth; each is worth something.
        answers("ten of them", 55, Kit.bytes(1, 1, 1, 2, 1, 3, 1, 4, 1, 5, 1, 6, 1, 7, 1, 8, 1, 9, 1, 10, 9, 9, 9, 9,
                9, 9, 9, 9, 9));
        wrongTypes("an eleventh s8", Kit.join(Kit.times(11, 1, 5), Kit.bytes(42)));
        wrongTypes("an eleventh s32", Kit.join(Kit.times(10, 1, 5), Kit.word(5), Kit.bytes(42)));
    }

    private static void loadStore() {
        int[] keep = new int[0];
        int[] bring = new int[0];
        for (int n = 0; n < 12; n++) {
            keep = Kit.join(keep, Kit.bytes(1, n + 1, 4, n));
            bring = Kit.join(bring, Kit.bytes(3, n, 43));
        }
        ProbeLoom x = Kit.loomOf(0, 12, Kit.join(keep, bring, Kit.bytes(3, 11, 42)));
        Kit.dueEnd("12 LOCALS", x, 0, Kit.ab(0, 0, 99), 0, 12);
        for (int n = 0; n < 12; n++) {
            Kit.due("LOCAL " + n, x.mark(0, n), n + 1);
        }
        Kit.dueMade("LOCAL 12 of 12", -11, 5, Kit.tell(0, 12, Kit.bytes(3, 12, 42), Kit.NO_HANDLERS));
        Kit.dueMade("store in LOCAL 12 of 12", -11, 7, Kit.tell(0, 12, Kit.bytes(1, 1, 4, 12, 1, 1, 42), Kit.NO_HANDLERS));
        wrongTypes("store of an empty STACK", 4, 1, 1, 1, 42);
        wrongTypes("load on ten", Kit.join(Kit.times(10, 1, 5), Kit.bytes(3, 0, 42)));
        // v may be a ROW.
        answers("a ROW by a LOCAL", 5, 1, 5, 36, 4, 2, 3, 2, 37);
    }

    private static void inc() {
        int[][] cases = {{MAX, 1, MIN}, {MAX, 127, MIN + 126}, {MIN, -1, MAX}, {MIN, -128, MAX - 127}, {5, 0, 5},
            {-1, 1, 0}, {0, -1, -1}};
        for (int[] c : cases) {
            ProbeLoom x = Kit.loomOf(1, 1, Kit.bytes(5, 0, c[1], 3, 0, 42));
            Kit.dueEnd("inc of " + c[0] + " by " + c[1], x, 0, Kit.ab(c[0], 0, 9), 0, c[2]);
        }
        answers("the last of 3 LOCALS, and no other", 7, 1, 3, 4, 1, 1, 3, 4, 2, 5, 2, 1, 3, 1, 3, 2, 9);
        wrongTypes("inc of NO", 5, 1, 1, 1, 1, 42);
        wrongTypes("inc of a ROW", 1, 1, 36, 4, 1, 5, 1, 1, 1, 1, 42);
    }

    private static void dupPopSwap() {
        int[] nine = Kit.times(9, 1, 5);
        answers("dup to ten", 10, Kit.join(nine, Kit.bytes(6, 9)));
        wrongTypes("dup of ten", Kit.join(nine, Kit.bytes(1, 5, 6, 42)));
        wrongTypes("dup of none", 6, 42);
        answers("pop to none, then on", 8, 1, 5, 7, 1, 8);
        wrongTypes("pop of none", 7, 1, 1, 42);
        answers("swap of ten", 1, Kit.join(Kit.times(8, 1, 5), Kit.bytes(1, 6, 1, 5, 8, 10, 19, 19, 19)));
        answers("swap of two", -2, 1, 5, 1, 3, 8, 10);
        wrongTypes("swap of one", 1, 1, 8, 42);
        // v a ROW, w an INT, and the other way round.
        answers("swap of unlike", 4, 1, 4, 36, 1, 9, 8, 37, 8, 7);
        answers("dup of a ROW", 8, 1, 4, 36, 6, 37, 8, 37, 9);
        answers("pop of a ROW", 3, 1, 3, 1, 4, 36, 7);
    }

    private static void sums() {
        int[][] cases = {{9, MAX, 1, MIN}, {10, MIN, 1, MAX}, {11, MIN, -1, MIN}, {11, MAX, 2, -2},
            {12, 7, 2, 3}, {12, -7, 2, -3}, {12, 7, -2, -3}, {12, -7, -2, 3}, {12, MIN, -1, MIN}, {12, MIN, 1, MIN},
            {12, MIN, MIN, 1}, {12, MAX, MIN, 0}, {12, 0, -1, 0}, {12, 1, MAX, 0},
            {13, 7, 2, 1}, {13, -7, 2, -1}, {13, 7, -2, 1}, {13, -7, -2, -1}, {13, MIN, -1, 0}, {13, MIN, MAX, -1},
            {13, MAX, MIN, MAX}, {13, 0, 5, 0}};
        for (int[] c : cases) {
            Kit.dueEnd(c[0] + " of " + c[1] + ", " + c[2], ofTwo(c[0]), 0, Kit.ab(c[1], c[2], 9), 0, c[3]);
        }
        int[] some = {0, 1, -1, MIN, MAX};
        for (int i : some) {
            throwsAt("div by 0", ofTwo(12), i, 0, 101, 4);
            throwsAt("rem by 0", ofTwo(13), i, 0, 101, 4);
        }
        for (int op = 9; op <= 11; op++) {
            Kit.dueEnd("no throw of " + op, ofTwo(op), 0, Kit.ab(0, 0, 9), 0, 0);
        }
    }

    private static void bits() {
        int[][] cases = {{14, -1, MIN, MIN}, {14, 12, 10, 8}, {15, MIN, MAX, -1}, {15, 12, 10, 14}, {16, -1, MIN, MAX},
            {16, 12, 10, 6},
            {17, 1, 31, MIN}, {17, 1, 32, 1}, {17, 1, 33, 2}, {17, 1, -1, MIN}, {17, 3, 31, MIN}, {17, 1, 0, 1},
            {17, -1, -32, -1}, {17, 5, 1 << 30, 5},
            {18, MIN, 31, -1}, {18, MIN, 32, MIN}, {18, MIN, 33, MIN >> 1}, {18, MIN, -1, -1}, {18, MAX, 31, 0},
            {18, MAX, 30, 1}, {18, -1, 5, -1}, {18, -5, 1, -3}, {18, 5, MIN, 5}, {18, 8, -29, 1}};
        for (int[] c : cases) {
            Kit.dueEnd(c[0] + " of " + c[1] + ", " + c[2], ofTwo(c[0]), 0, Kit.ab(c[1], c[2], 9), 0, c[3]);
        }
    }

    private static void neg() {
        ProbeLoom x = Kit.loomOf(1, 1, Kit.bytes(3, 0, 19, 42));
        int[][] cases = {{0, 0}, {1, -1}, {MAX, MIN + 1}, {MIN, MIN}, {MIN + 1, MAX}};
        for (int[] c : cases) {
            Kit.dueEnd("neg " + c[0], x, 0, Kit.ab(c[0], 0, 9), 0, c[1]);
        }
        wrongTypes("neg of none", 19, 42);
    }

    private static void jump() {
        ProbeLoom itself = Kit.loomOf(0, 0, Kit.bytes(20, 0));
        Kit.dueEnd("to itself", itself, 0, Kit.ab(0, 0, 3000), 2, 0);
        ProbeLoom on = Kit.loomOf(0, 0, Kit.join(Kit.bytes(20, 127), Kit.times(125, 0), Kit.bytes(1, 6, 42)));
        Kit.dueEnd("127 on", on, 0, Kit.ab(0, 0, 3), 0, 6);
        // 0 jump to 129; 2 push, give; nops; 129 jump back by 127: to 2.
        ProbeLoom back = Kit.loomOf(0, 0, Kit.join(Kit.bytes(84, 0, 130), Kit.bytes(1, 6, 42), Kit.times(124, 0),
                Kit.bytes(0, 20, 128)));
        Kit.dueEnd("128 back", back, 0, Kit.ab(0, 0, 5), 0, 6);
        Kit.due("and no more STEPS", back.told(0, 2), 5);
    }

    private static void choices() {
        int[] some = {MIN, -1, 0, 1, MAX};
        for (int op = 21; op <= 26; op++) {
            ProbeLoom x = Kit.loomOf(1, 1, Kit.bytes(3, 0, op, 5, 1, 8, 42, 1, 9, 42));
            for (int i : some) {
                boolean[] jumps = {i == 0, i != 0, i < 0, i >= 0, i > 0, i <= 0};
                Kit.dueEnd(op + " of " + i, x, 0, Kit.ab(i, 0, 9), 0, jumps[op - 21] ? 9 : 8);
            }
            wrongTypes(op + " of none", op, 2, 1, 1, 42);
        }
    }

    private static void choicesByTwo() {
        // Differences of these wrap, so that no difference may be looked at.
        int[] some = {MIN, -1, 0, 1, MAX};
        for (int op = 27; op <= 32; op++) {
            ProbeLoom x = Kit.loomOf(2, 2, Kit.bytes(3, 0, 3, 1, op, 5, 1, 8, 42, 1, 9, 42));
            for (int i : some) {
                for (int j : some) {
                    boolean[] jumps = {i == j, i != j, i < j, i >= j, i > j, i <= j};
                    Kit.due("run", x.run(0, 0, i, j, 9), 0);
                    Kit.due(op + " of " + i + ", " + j, x.told(0, 1), jumps[op - 27] ? 9 : 8);
                }
            }
            wrongTypes(op + " of one", 1, 1, op, 2, 1, 1, 42);
        }
    }

    /** load 0, table n, then n + 1 times push k, give; the first answers 100. */
    private static ProbeLoom tableOf(int n) {
        int[] numbers = new int[0];
        int[] gives = new int[0];
        for (int k = 0; k <= n; k++) {
            numbers = Kit.join(numbers, Kit.bytes(0, 4 + 2 * n + 3 * k));
            gives = Kit.join(gives, Kit.bytes(1, k == 0 ? 100 : k - 1, 42));
        }
        return Kit.loomOf(1, 1, Kit.join(Kit.bytes(3, 0, 33, n), numbers, gives));
    }

    private static void table() {
        for (int n = 1; n <= 16; n++) {
            ProbeLoom x = tableOf(n);
            for (int i = 0; i < n; i++) {
                Kit.due("run", x.run(0, 0, i, 0, 9), 0);
                Kit.due(i + " of " + n, x.told(0, 1), i);
            }
            int[] others = {-1, n, n + 1, MIN, MAX, 256, -256};
            for (int i : others) {
                Kit.dueEnd(i + " of " + n, x, 0, Kit.ab(i, 0, 9), 0, 100);
            }
        }
        Kit.dueMade("n 0", -11, 7, Kit.tell(1, 1, Kit.bytes(3, 0, 33, 0, 0, 4, 1, 1, 42), Kit.NO_HANDLERS));
        Kit.dueMade("n 17", -11, 7, Kit.tell(1, 1, Kit.join(Kit.bytes(3, 0, 33, 17), Kit.times(18, 0, 38),
                Kit.bytes(1, 1, 42)), Kit.NO_HANDLERS));
        // s16 back over more than 255 bytes: 0 jump on, 3 push, give; nops; load, table.
        ProbeLoom back = Kit.loomOf(1, 1, Kit.join(Kit.bytes(84, 1, 44, 1, 6, 42), Kit.times(294, 0),
                Kit.bytes(3, 0, 33, 1, 254, 213, 254, 213)));
        Kit.dueEnd("back by the first", back, 0, Kit.ab(7, 0, 9), 0, 6);
        Kit.dueEnd("back by the last", back, 0, Kit.ab(0, 0, 9), 0, 6);
        wrongTypes("table of none", 33, 1, 0, 6, 0, 6, 1, 1, 42);
    }

    private static void fields() {
        int[] keep = new int[0];
        int[] bring = new int[0];
        for (int f = 0; f < 8; f++) {
            keep = Kit.join(keep, Kit.bytes(1, f + 1, 35, f));
            bring = Kit.join(bring, Kit.bytes(34, f, 43));
        }
        ProbeLoom x = Kit.loomOf(0, 0, Kit.join(keep, bring, Kit.bytes(34, 7, 42)));
        Kit.dueEnd("8 FIELDS", x, 0, Kit.ab(0, 0, 99), 0, 8);
        for (int f = 0; f < 8; f++) {
            Kit.due("get " + f, x.mark(0, f), f + 1);
            Kit.due("put " + f, x.field(0, f), f + 1);
        }
        Kit.dueMade("get 8", -11, 5, Kit.tell(0, 0, Kit.bytes(34, 8, 42), Kit.NO_HANDLERS));
        Kit.dueMade("put 8", -11, 7, Kit.tell(0, 0, Kit.bytes(1, 1, 35, 8, 1, 1, 42), Kit.NO_HANDLERS));
        wrongTypes("put of none", 35, 0, 1, 1, 42);
        wrongTypes("get on ten", Kit.join(Kit.times(10, 1, 5), Kit.bytes(34, 0, 42)));
    }

    private static void row() {
        // Answers the last INT of a ROW of a, or 99 of an empty one; marks its size.
        ProbeLoom x = Kit.loomOf(1, 2, Kit.bytes(3, 0, 36, 4, 1, 3, 1, 37, 6, 43, 21, 11, 3, 1, 3, 0, 1, 1, 10, 38, 42,
                1, 99, 42));
        int[] well = {0, 1, 2, 49, 50};
        for (int i : well) {
            Kit.dueEnd("ROW of " + i, x, 0, Kit.ab(i, 0, 99), 0, i == 0 ? 99 : 0);
            Kit.due("its size", x.mark(0, 0), i);
            Kit.due("made", x.told(0, 5), 1);
        }
        int[] wrong = {-1, 51, 52, 255, 256, MIN, MAX};
        for (int i : wrong) {
            throwsAt("ROW of " + i, x, i, 0, 103, 2);
            Kit.due("none made", x.told(0, 5), 0);
        }
        // Each INT is 0, also where a ROW of an earlier RUN held another.
        ProbeLoom all = Kit.loomOf(1, 3, Kit.bytes(1, 50, 36, 4, 1, 1, 0, 4, 2, 1, 0, 3, 1, 3, 2, 38, 15,
                3, 1, 3, 2, 1, 77, 39, 5, 2, 1, 3, 2, 1, 50, 29, -20, 42));
        Kit.dueEnd("all are 0", all, 0, Kit.ab(0, 0, 3000), 0, 0);
        Kit.dueEnd("all are 0 again", all, 0, Kit.ab(0, 0, 3000), 0, 0);
    }

    private static void row31() {
        // a ROWS of b, round and round.
        ProbeLoom x = Kit.loomOf(2, 2, Kit.bytes(3, 1, 36, 7, 5, 0, 255, 3, 0, 22, -9, 1, 6, 42));
        for (int size = 0; size <= 50; size += 50) {
            Kit.dueEnd("29", x, 0, Kit.ab(29, size, 3000), 0, 6);
            Kit.dueEnd("30", x, 0, Kit.ab(30, size, 3000), 0, 6);
            Kit.due("30 made", x.told(0, 5), 30);
            throwsAt("the 31st", x, 31, size, 104, 2);
            Kit.due("the 31st is not made", x.told(0, 5), 30);
        }
        // Caught, so that the 32nd and more are tried: each throws.
        ProbeLoom more = Kit.loomOf(1, 1, Kit.bytes(1, 50, 36, 7, 5, 0, 255, 3, 0, 22, -9, 1, 6, 42, 43, 20, -11),
                new int[] {2, 3, 14, 104});
        Kit.dueEnd("35", more, 0, Kit.ab(35, 0, 3000), 0, 6);
        Kit.due("five were thrown", more.told(0, 3), 5);
        Kit.due("30 made in all", more.told(0, 5), 30);
        // Of a RUN: FRAMES share them.
        ProbeLoom deep = Kit.loomOf(0, 0, Kit.join(Kit.times(16, 1, 1, 36, 7), Kit.bytes(1, 6, 42)));
        Kit.make(deep, 0, 0, Kit.bytes(40, 0, 7, 40, 0, 42));
        Kit.dueEnd("16 in each of two FRAMES", deep, 1, Kit.ab(0, 0, 3000), 1, 104);
        Kit.due("in the METHOD that is called", deep.told(0, 7), 0);
        Kit.due("its 15th", deep.told(0, 6), 14 * 4 + 2);
    }

    private static void size() {
        answers("size 0", 0, 1, 0, 36, 37);
        answers("size 50", 50, 1, 50, 36, 37);
        answers("of the first of two", 3, 1, 3, 36, 4, 0, 1, 9, 36, 4, 1, 3, 0, 37);
        answers("of the second of two", 9, 1, 3, 36, 4, 0, 1, 9, 36, 4, 1, 3, 1, 37);
        for (int many = 28; many <= 29; many++) {
            answers("behind " + many + " others", 50, Kit.join(Kit.times(many, 1, 0, 36, 7), Kit.bytes(1, 50, 36, 37)));
        }
        wrongTypes("size of an INT", 1, 1, 37, 42);
    }

    private static void takeLay() {
        // ROWS of 3 in LOCALS 2 and 3: INT a of the second gets b, then is taken; so of the first.
        ProbeLoom x = Kit.loomOf(2, 4, Kit.bytes(1, 3, 36, 4, 2, 1, 3, 36, 4, 3, 3, 3, 3, 0, 3, 1, 39,
                3, 2, 3, 0, 38, 43, 3, 3, 3, 0, 38, 42));
        for (int i = 0; i < 3; i++) {
            Kit.dueEnd("INT " + i, x, 0, Kit.ab(i, 70 + i, 99), 0, 70 + i);
            Kit.due("the other ROW has its own", x.mark(0, 0), 0);
        }
        // take alone, of a ROW of 3.
        ProbeLoom take = Kit.loomOf(1, 1, Kit.bytes(1, 3, 36, 3, 0, 38, 42));
        int[] none = {-1, 3, 4, 50, MIN, MAX};
        for (int i : none) {
            throwsAt("lay of INT " + i, x, i, 1, 102, 16);
            throwsAt("take of INT " + i, take, i, 0, 102, 5);
        }
        Kit.dueEnd("take of INT 0", take, 0, Kit.ab(0, 0, 9), 0, 0);
        Kit.dueEnd("take of INT 2", take, 0, Kit.ab(2, 0, 9), 0, 0);
        throwsAt("take of an empty one", Kit.loomOf(0, 0, Kit.bytes(1, 0, 36, 1, 0, 38, 42)), 0, 0, 102, 5);
        throwsAt("lay in an empty one", Kit.loomOf(0, 0, Kit.bytes(1, 0, 36, 1, 0, 1, 0, 39, 1, 1, 42)), 0, 0, 102, 7);
        answers("INT 49 of 50", 8, 1, 50, 36, 4, 0, 3, 0, 1, 49, 1, 8, 39, 3, 0, 1, 49, 38);
        edgesOfRows();
    }

    /** 30 ROWS of 50: the last INT of each is beside the first of the next, and both have their own. */
    private static void edgesOfRows() {
        int[] make = Kit.bytes(1, 50, 36, 4, 0, 1, 50, 36, 4, 1, 1, 50, 36, 4, 2);
        ProbeLoom x = Kit.loomOf(0, 3, Kit.join(make, Kit.bytes(3, 1, 1, 0, 1, 7, 39, 3, 1, 1, 49, 1, 8, 39),
                Kit.bytes(3, 0, 1, 49, 38, 43, 3, 2, 1, 0, 38, 43, 3, 1, 1, 0, 38, 43, 3, 1, 1, 49, 38, 42)));
        Kit.dueEnd("the last", x, 0, Kit.ab(0, 0, 99), 0, 8);
        Kit.due("the one before it has its own", x.mark(0, 0), 0);
        Kit.due("the one behind it has its own", x.mark(0, 1), 0);
        Kit.due("the first", x.mark(0, 2), 7);
        // The 30th, behind FIELDS and all others.
        ProbeLoom last = Kit.loomOf(0, 1, Kit.join(Kit.times(29, 1, 50, 36, 7), Kit.bytes(1, 50, 36, 4, 0, 3, 0, 1, 49,
                1, 9, 39, 3, 0, 1, 49, 38, 42)));
        Kit.dueEnd("INT 49 of the 30th", last, 0, Kit.ab(0, 0, 3000), 0, 9);
        for (int f = 0; f < 8; f++) {
            Kit.due("no FIELD is a ROW's", last.field(0, f), 0);
        }
    }

    private static void call() {
        // METHOD n has n ARGUMENTS, answers them as one number; METHOD 5 calls them all.
        ProbeLoom x = new ProbeLoom();
        int[] digits = new int[0];
        int[] all = Kit.bytes(1, 9);
        for (int n = 0; n <= 4; n++) {
            Kit.due("make", Kit.make(x, n, 3 * n, Kit.join(Kit.bytes(1, 0), digits, Kit.bytes(42))), n);
            digits = Kit.join(digits, Kit.bytes(1, 10, 11, 3, n, 9));
            int[] given = new int[0];
            for (int i = 1; i <= n; i++) {
                given = Kit.join(given, Kit.bytes(1, i));
            }
            all = Kit.join(all, given, Kit.bytes(40, n, 43));
        }
        Kit.due("make", Kit.make(x, 0, 0, Kit.join(all, Kit.bytes(42))), 5);
        Kit.dueEnd("what was below stays", x, 5, Kit.ab(0, 0, 3000), 0, 9);
        int[] want = {0, 1, 12, 123, 1234};
        for (int n = 0; n <= 4; n++) {
            Kit.due("with " + n, x.mark(0, n), want[n]);
        }
        ProbeLoom four = Kit.loomOf(4, 4, Kit.bytes(3, 3, 42));
        Kit.due("three for four", Kit.make(four, 0, 0, Kit.join(Kit.times(3, 1, 5), Kit.bytes(40, 0, 42))), TYPES);
        Kit.due("four for four", Kit.make(four, 0, 0, Kit.join(Kit.times(4, 1, 5), Kit.bytes(40, 0, 42))), 1);
        Kit.due("a ROW for one", Kit.make(four, 0, 0, Kit.join(Kit.bytes(1, 5, 36), Kit.times(3, 1, 5),
                Kit.bytes(40, 0, 42))), TYPES);
        Kit.due("none on ten", Kit.make(four, 0, 0, Kit.join(Kit.times(10, 1, 5), Kit.bytes(40, 2, 42))), TYPES);
        Kit.due("none on nine", Kit.make(four, 0, 0, Kit.join(Kit.times(9, 1, 5), Kit.bytes(40, 2, 42))), 2);
        Kit.due("four of ten", Kit.make(four, 0, 0, Kit.join(Kit.times(10, 1, 6), Kit.bytes(40, 0, 42))), 3);
        Kit.dueEnd("four of ten", four, 3, Kit.ab(0, 0, 99), 0, 6);
    }

    private static void throwing() {
        ProbeLoom x = Kit.loomOf(1, 1, Kit.bytes(3, 0, 41));
        int[][] kinds = {{1, 1}, {2, 2}, {98, 98}, {99, 99}, {100, 100}, {101, 100}, {105, 100}, {0, 100}, {-1, 100},
            {-99, 100}, {256, 100}, {257, 100}, {MIN, 100}, {MAX, 100}};
        for (int[] k : kinds) {
            throwsAt("throw " + k[0], x, k[0], 0, k[1], 2);
        }
        wrongTypes("throw of none", 41);
    }

    private static void giveMark() {
        ProbeLoom x = Kit.loomOf(1, 1, Kit.bytes(3, 0, 43, 3, 0, 42));
        int[] some = {MIN, -1, 0, 1, MAX};
        for (int i : some) {
            Kit.dueEnd("give", x, 0, Kit.ab(i, 0, 9), 0, i);
            Kit.due("mark", x.mark(0, 0), i);
        }
        answers("give with ten on the STACK", 7, Kit.join(Kit.times(9, 1, 5), Kit.bytes(1, 7)));
        wrongTypes("give of none", 42);
        wrongTypes("mark of none", 43, 1, 1, 42);
    }

    private static void longJumps() {
        int[] some = {MIN, -1, 0, 1, MAX};
        for (int op = 84; op <= 96; op++) {
            boolean two = op >= 91;
            int[] load = op == 84 ? Kit.bytes() : two ? Kit.bytes(3, 0, 3, 1) : Kit.bytes(3, 0);
            // 300 bytes on, and from there back to what is behind the jump: answers 8 or 9.
            int on = 3 + 3 + 300;
            ProbeLoom x = Kit.loomOf(2, 2, Kit.join(load, Kit.bytes(op, on >> 8, on), Kit.bytes(1, 8, 42),
                    Kit.times(300, 0), Kit.bytes(1, 9, 42)));
            for (int i : some) {
                int j = two ? 0 : 55;
                boolean[] jumps = {i == 0, i != 0, i < 0, i >= 0, i > 0, i <= 0};
                boolean jumped = op == 84 || jumps[(op - 85) % 6];
                Kit.due("run", x.run(0, 0, i, j, 9), 0);
                Kit.due(op + " of " + i, x.told(0, 1), jumped ? 9 : 8);
            }
        }
        Kit.dueMade("83", -11, 7, Kit.tell(0, 0, Kit.bytes(1, 1, 42, 83, 0, 0), Kit.NO_HANDLERS));
        Kit.dueMade("97", -11, 7, Kit.tell(0, 0, Kit.bytes(1, 1, 42, 97, 0, 0), Kit.NO_HANDLERS));
        ProbeLoom itself = Kit.loomOf(0, 0, Kit.bytes(84, 0, 0));
        Kit.dueEnd("84 to itself", itself, 0, Kit.ab(0, 0, 100), 2, 0);
        ProbeLoom widest = Kit.loomOf(0, 0, Kit.join(Kit.bytes(84, 1, 141), Kit.times(394, 0), Kit.bytes(1, 9, 42)));
        Kit.dueEnd("397 on", widest, 0, Kit.ab(0, 0, 3), 0, 9);
    }

    private static void behindFirstByte() {
        // By 2 a short one leads to what is behind it, by 3 a long one, by 6 a table of 1.
        answers("short by 2", 4, 20, 2, 1, 4);
        answers("long by 3", 4, 84, 0, 3, 1, 4);
        answers("table by 6", 4, 1, 0, 33, 1, 0, 6, 0, 6, 1, 4);
        // By -1 to the nop ahead of it: round by LIMIT.
        ProbeLoom x = Kit.loomOf(0, 0, Kit.bytes(0, 20, 255));
        Kit.dueEnd("by -1", x, 0, Kit.ab(0, 0, 7), 2, 0);
    }

    private static void whichMethods() {
        ProbeLoom x = new ProbeLoom();
        for (int m = 0; m < 6; m++) {
            for (int callee = m + 1; callee <= 6; callee++) {
                Kit.due("METHOD " + callee + " from " + m, Kit.make(x, 0, 0, Kit.bytes(40, callee, 42)), -11);
                Kit.due("its place", x.place(), 5);
            }
            // Itself behind a give, all that are there ahead of it.
            int[] calls = new int[0];
            for (int callee = 0; callee < m; callee++) {
                calls = Kit.join(calls, Kit.bytes(40, callee, 7));
            }
            Kit.due("METHOD " + m, Kit.make(x, 0, 0, Kit.join(calls, Kit.bytes(1, m, 42, 40, m, 42))), m);
        }
        Kit.dueEnd("all", x, 5, Kit.ab(0, 0, 3000), 0, 5);
        // A METHOD that a FAULT refused is not there.
        ProbeLoom y = Kit.loomOf(0, 0, Kit.bytes(1, 1, 42));
        Kit.due("refused", Kit.make(y, 0, 0, Kit.bytes(42)), TYPES);
        Kit.due("METHOD 1 is told", Kit.make(y, 0, 0, Kit.bytes(1, 1, 42, 40, 1)), 1);
        Kit.due("METHOD 3 is not", Kit.make(y, 0, 0, Kit.bytes(1, 1, 42, 40, 3)), -11);
    }
}
