/** '1 CODE': TYPES on all ways. */
final class TypeEdges {
    private static final int NO = 0;
    private static final int INT = 1;
    private static final int ROW = 2;

    private TypeEdges() {
    }

    static void all(Edges edges) {
        edges.free("TYPES:", "a heading");
        edges.test("before each INSTRUCTION that can be come to there is a STACK of TYPES, INT and ROW, 10 at most, "
                + "and of each LOCAL INT, ROW or NO.", TypeEdges::tenAtMost);
        edges.test("At the first: no STACK, ARGUMENTS are the first LOCALS, others NO.", TypeEdges::first);
        edges.test("What is behind an INSTRUCTION comes to each to which it can go;", TypeEdges::eachWay);
        edges.test("what is LOCAL before an INSTRUCTION between FROM (with it) and TO (without) comes to the TARGET, "
                + "with just an INT on the STACK.", TypeEdges::toTarget);
        edges.test("Where several come they are JOINED: LOCALS that are unlike are NO.", TypeEdges::joined);
        edges.free("Wrong is:", "a heading");
        edges.test("STACKS that are unlike where they join;", TypeEdges::unlikeStacks);
        edges.test("too few, too many on it;", TypeEdges::tooFewTooMany);
        edges.test("a TYPE that is not as told (v w may be of either);", TypeEdges::notAsTold);
        edges.test("load of a LOCAL that is NO;", TypeEdges::loadOfNo);
        edges.test("the CODE's end that can be come to.", TypeEdges::end);
        edges.test("(store sets a LOCAL's TYPE.)", TypeEdges::store);
    }

    private static void well(String what, int[] code, int[]... handlers) {
        Kit.dueMade(what, 0, -1, Kit.tell(1, 4, code, handlers));
    }

    private static void wrong(String what, int[] code, int[]... handlers) {
        Kit.dueMade(what, -14, 0, Kit.tell(1, 4, code, handlers));
    }

    private static void dueType(String what, ProbeLoom x, int place, int whatType, int want) {
        Kit.due(what + " at " + place, x.type(0, place, whatType), want);
    }

    private static void tenAtMost() {
        int[] ten = new int[0];
        for (int cell = 0; cell < 10; cell++) {
            ten = Kit.join(ten, cell % 2 == 0 ? Kit.bytes(1, 1, 36) : Kit.bytes(1, 1, 0));
        }
        well("ten", Kit.join(ten, Kit.bytes(42)));
        wrong("eleven", Kit.join(ten, Kit.bytes(1, 1, 42)));
        wrong("eleven, one of them gone again", Kit.join(ten, Kit.bytes(1, 1, 7, 42)));
        ProbeLoom x = Kit.loomOf(0, 12, Kit.join(ten, Kit.bytes(4, 11, 4, 10, 1, 1, 42)));
        dueType("height", x, 30, 0, 10);
        for (int cell = 0; cell < 10; cell++) {
            dueType("cell " + cell, x, 30, 13 + cell, cell % 2 == 0 ? ROW : INT);
        }
        dueType("LOCAL 11", x, 34, 12, INT);
        dueType("LOCAL 10", x, 34, 11, ROW);
        dueType("LOCAL 9", x, 34, 10, NO);
        // What can't be come to has none, and may be wrong as it likes.
        ProbeLoom y = Kit.loomOf(0, 1, Kit.bytes(1, 1, 42, 42, 9, 3, 0));
        dueType("not come to", y, 3, 0, -1);
        dueType("not come to", y, 4, 1, -1);
        // That holds too where METHODS of the same object had INSTRUCTIONS there that could be come to.
        Kit.due("another METHOD", Kit.make(y, 0, 0, Kit.bytes(0, 0, 0, 0, 1, 1, 42)), 1);
        Kit.due("not come to", Kit.make(y, 0, 0, Kit.bytes(1, 1, 42, 0, 0, 0, 42)), 2);
        Kit.due("not come to", y.type(2, 6, 0), -1);
        // A ROW as the tenth is one too.
        well("a tenth by row", Kit.join(Kit.times(10, 1, 5), Kit.bytes(36, 7, 42)));
    }

    private static void first() {
        for (int arguments = 0; arguments <= 4; arguments++) {
            ProbeLoom x = Kit.loomOf(arguments, 12, Kit.bytes(1, 1, 42));
            dueType("height", x, 0, 0, 0);
            dueType("no cell", x, 0, 13, -1);
            for (int n = 0; n < 12; n++) {
                dueType("LOCAL " + n + " of " + arguments, x, 0, n + 1, n < arguments ? INT : NO);
            }
        }
        wrong("a jump back to the first with a STACK", Kit.bytes(1, 1, 20, 254));
        well("a jump back to the first with none", Kit.bytes(1, 1, 7, 20, 253));
        // An ARGUMENT is one at the first only while all that come there say so.
        ProbeLoom x = Kit.loomOf(1, 1, Kit.bytes(1, 1, 36, 4, 0, 20, -5));
        dueType("an ARGUMENT that is made a ROW", x, 0, 1, NO);
    }

    private static void eachWay() {
        // A choice goes both ways, a jump one, a table all, throw and give none.
        ProbeLoom choice = Kit.loomOf(1, 1, Kit.bytes(3, 0, 21, 5, 1, 1, 42, 1, 2, 42));
        dueType("behind a choice", choice, 4, 0, 0);
        dueType("where it jumps", choice, 7, 0, 0);
        ProbeLoom jump = Kit.loomOf(1, 1, Kit.bytes(20, 3, 0, 1, 2, 42));
        dueType("behind a jump", jump, 2, 0, -1);
        dueType("where it jumps", jump, 3, 0, 0);
        ProbeLoom far = Kit.loomOf(1, 1, Kit.bytes(84, 0, 4, 0, 1, 2, 42));
        dueType("behind a long jump", far, 3, 0, -1);
        ProbeLoom table = Kit.loomOf(1, 1, Kit.bytes(3, 0, 33, 2, 0, 9, 0, 12, 0, 15, 0, 1, 1, 42, 1, 2, 42, 1, 3, 42));
        dueType("behind a table", table, 10, 0, -1);
        dueType("its first", table, 11, 0, 0);
        dueType("its second", table, 14, 0, 0);
        dueType("its last", table, 17, 0, 0);
        ProbeLoom thrown = Kit.loomOf(1, 1, Kit.bytes(3, 0, 41, 0));
        dueType("behind a throw", thrown, 3, 0, -1);
        ProbeLoom given = Kit.loomOf(1, 1, Kit.bytes(3, 0, 42, 0));
        dueType("behind a give", given, 3, 0, -1);
        ProbeLoom call = Kit.loomOf(0, 0, Kit.bytes(40, 0, 42));
        dueType("behind a call", call, 2, 13, INT);
        manyWays();
    }

    /** 98 choices one behind the other, each with a way of its own: none of them is forgotten. */
    private static void manyWays() {
        int[] code = Kit.join(Kit.bytes(3, 0), Kit.times(98, 6, 21, 3, 42), Kit.bytes(42));
        ProbeLoom x = Kit.loomOf(1, 4, code);
        for (int k = 0; k < 98; k++) {
            dueType("way " + k, x, 2 + 4 * k + 3, 0, 1);
            int[] sizeOfInt = code.clone();
            sizeOfInt[2 + 4 * k + 3] = 37;
            wrong("way " + k, sizeOfInt);
        }
    }

    private static void toTarget() {
        // 0 push, 2 row, 3 store 1, 5 load 0, 7 give, 8 give: LOCAL 1 is a ROW before 5 and behind.
        int[] code = {1, 1, 36, 4, 1, 3, 0, 42, 42};
        int[][] ranges = {{5, 8, ROW}, {5, 7, ROW}, {7, 8, ROW}, {3, 8, NO}, {3, 5, NO}, {0, 5, NO}, {0, 9, NO}};
        for (int[] r : ranges) {
            ProbeLoom x = Kit.loomOf(1, 2, code, new int[] {r[0], r[1], 8, 0});
            dueType(r[0] + " .. " + r[1], x, 8, 2, r[2]);
            dueType("an ARGUMENT", x, 8, 1, INT);
            dueType("just one", x, 8, 0, 1);
            dueType("an INT", x, 8, 13, INT);
            dueType("and no more", x, 8, 14, -1);
        }
        ProbeLoom never = Kit.loomOf(1, 2, Kit.bytes(1, 1, 42, 0, 42), new int[] {3, 4, 4, 0});
        dueType("none between FROM and TO can be come to", never, 4, 0, -1);
        // FROM is with it: the store at FROM itself has NO before it.
        wrong("load behind what is NO at FROM", Kit.bytes(1, 1, 4, 1, 3, 1, 42, 7, 3, 1, 42), new int[] {2, 6, 7, 0});
        well("load behind what is INT at FROM", Kit.bytes(1, 1, 4, 1, 3, 1, 42, 7, 3, 1, 42), new int[] {4, 6, 7, 0});
        // TO is without it: LOCAL 1 is a ROW before TO alone.
        int[] later = {1, 1, 4, 1, 1, 1, 36, 4, 1, 1, 2, 42, 7, 3, 1, 42};
        well("what TO would bring does not come", later, new int[] {4, 9, 12, 0});
        wrong("what is before TO comes", later, new int[] {4, 11, 12, 0});
        // Two HANDLERS with one TARGET are joined there; so is a HANDLER's own range.
        wrong("two HANDLERS", later, new int[] {4, 9, 12, 0}, new int[] {9, 11, 12, 5});
        well("a TARGET within its own range", Kit.bytes(1, 1, 42, 42), new int[] {0, 4, 3, 0});
    }

    private static void joined() {
        int[][] ways = {{NO, NO, NO}, {INT, INT, INT}, {ROW, ROW, ROW}, {NO, INT, NO}, {INT, NO, NO}, {NO, ROW, NO},
            {ROW, NO, NO}, {INT, ROW, NO}, {ROW, INT, NO}};
        int[][] stores = {{0, 0, 0, 0, 0}, {0, 1, 1, 4, 11}, {1, 1, 36, 4, 11}};
        for (int[] way : ways) {
            ProbeLoom x = Kit.loomOf(1, 12, Kit.join(Kit.bytes(3, 0, 21, 9), stores[way[0]], Kit.bytes(20, 7),
                    stores[way[1]], Kit.bytes(1, 1, 42)));
            dueType(way[0] + " and " + way[1], x, 16, 12, way[2]);
            dueType("another LOCAL stays", x, 16, 1, INT);
        }
        // Three ways: what two of them agree in is NO by the third.
        ProbeLoom three = Kit.loomOf(1, 2, Kit.bytes(1, 1, 4, 1, 3, 0, 21, 11, 3, 0, 22, 7, 1, 1, 36, 4, 1, 3, 0, 42));
        dueType("the third", three, 17, 2, NO);
        dueType("ahead of it", three, 12, 2, INT);
        farRound();
    }

    /**
     * A long round with 11 ways back, each of which makes another LOCAL a ROW: they all are NO at
     * its beginning, which comes out only where the round is gone over again for each.
     */
    private static void farRound() {
        int[] stores = new int[0];
        for (int n = 1; n < 12; n++) {
            stores = Kit.join(stores, Kit.bytes(1, 1, 4, n));
        }
        int start = stores.length;
        int nops = 210;
        int[] choices = new int[0];
        int[] ways = new int[0];
        for (int n = 1; n < 12; n++) {
            int choice = start + nops + choices.length + 2;
            int way = start + nops + 5 * 11 + 3 + ways.length;
            choices = Kit.join(choices, Kit.bytes(3, 0, 85, way - choice >> 8, way - choice));
            int back = start - (way + 5);
            ways = Kit.join(ways, Kit.bytes(1, 1, 36, 4, n, 84, back >> 8, back));
        }
        int[] code = Kit.join(stores, Kit.times(nops, 0), choices, Kit.bytes(3, 0, 42), ways);
        ProbeLoom x = Kit.loomOf(1, 12, code);
        dueType("the ARGUMENT", x, start, 1, INT);
        for (int n = 1; n < 12; n++) {
            dueType("LOCAL " + n, x, start, n + 1, NO);
            dueType("LOCAL " + n + " far on", x, start + nops - 1, n + 1, NO);
            int[] load = code.clone();
            load[start + nops + choices.length + 1] = n;
            Kit.dueMade("load of LOCAL " + n + " behind the round", -14, 0, Kit.tell(1, 12, load, Kit.NO_HANDLERS));
        }
    }

    private static void unlikeStacks() {
        wrong("heights 0 and 1", Kit.bytes(3, 0, 21, 4, 1, 1, 1, 1, 42));
        wrong("heights 1 and 2", Kit.bytes(1, 1, 3, 0, 21, 4, 1, 1, 42));
        well("heights 1 and 1", Kit.bytes(3, 0, 21, 6, 1, 1, 20, 4, 1, 2, 42));
        wrong("INT and ROW", Kit.bytes(3, 0, 21, 6, 1, 1, 20, 5, 1, 2, 36, 7, 3, 0, 42));
        well("ROW and ROW", Kit.bytes(3, 0, 21, 7, 1, 1, 36, 20, 5, 1, 2, 36, 7, 3, 0, 42));
        wrong("unlike in the lowest of ten", Kit.join(Kit.bytes(3, 0, 21, 7, 1, 1, 36, 20, 5, 1, 2, 0),
                Kit.times(9, 1, 5), Kit.bytes(42)));
        wrong("a round that grows", Kit.bytes(1, 1, 20, -2));
        wrong("a round that shrinks", Kit.bytes(1, 1, 1, 1, 7, 20, -1));
        wrong("a TARGET that is come to with none", Kit.bytes(0, 1, 1, 42), new int[] {0, 1, 1, 0});
        wrong("a TARGET that is come to with a ROW", Kit.bytes(1, 1, 36, 7, 1, 1, 42), new int[] {0, 3, 3, 0});
        well("a TARGET that is come to with an INT", Kit.bytes(1, 1, 0, 42), new int[] {0, 2, 2, 0});
    }

    /** What each OP takes, by heights: with so many INTS (and a ROW lowest where it takes one) it is well. */
    private static void tooFewTooMany() {
        int[][] takes = {{4, 1}, {6, 1}, {7, 1}, {8, 2}, {9, 2}, {10, 2}, {11, 2}, {12, 2}, {13, 2}, {14, 2}, {15, 2},
            {16, 2}, {17, 2}, {18, 2}, {19, 1}, {21, 1}, {26, 1}, {27, 2}, {32, 2}, {35, 1}, {36, 1}, {41, 1}, {42, 1},
            {43, 1}, {85, 1}, {90, 1}, {91, 2}, {96, 2}};
        for (int[] t : takes) {
            int op = t[0];
            int[] operands = op == 4 || op == 35 ? Kit.bytes(1) : op >= 85 ? Kit.bytes(0, 3)
                    : op >= 21 && op <= 32 ? Kit.bytes(2) : Kit.bytes();
            int[] all = Kit.join(Kit.bytes(op), operands, Kit.bytes(1, 1, 42));
            well(op + " of " + t[1], Kit.join(Kit.times(t[1], 1, 5), all));
            wrong(op + " of " + (t[1] - 1), Kit.join(Kit.times(t[1] - 1, 1, 5), all));
        }
        int[] row = {1, 5, 36};
        int[] on = {1, 1, 42};
        well("size", Kit.join(row, Kit.bytes(37), on));
        wrong("size of none", Kit.join(Kit.bytes(37), on));
        well("take", Kit.join(row, Kit.bytes(1, 1, 38), on));
        wrong("take of a ROW alone", Kit.join(row, Kit.bytes(38), on));
        well("lay", Kit.join(row, Kit.bytes(1, 1, 1, 1, 39), on));
        wrong("lay of a ROW and one INT", Kit.join(row, Kit.bytes(1, 1, 39), on));
        well("table of one", Kit.join(Kit.bytes(1, 1, 33, 1, 0, 6, 0, 6), on));
        wrong("table of none", Kit.join(Kit.bytes(33, 1, 0, 6, 0, 6), on));
        tooMany();
    }

    private static void tooMany() {
        int[][] putters = {{1, 5}, {2, 0, 0, 0, 5}, {3, 0}, {6}, {34, 0}};
        for (int[] put : putters) {
            well(put[0] + " on nine", Kit.join(Kit.times(9, 1, 5), put, Kit.bytes(42)));
            wrong(put[0] + " on ten", Kit.join(Kit.times(10, 1, 5), put, Kit.bytes(42)));
            wrong(put[0] + " on ten, then pop", Kit.join(Kit.times(10, 1, 5), put, Kit.bytes(7, 42)));
        }
        ProbeLoom x = Kit.loomOf(0, 0, Kit.bytes(1, 1, 42));
        Kit.due("a call that takes none, on nine", Kit.make(x, 0, 0,
                Kit.join(Kit.times(9, 1, 5), Kit.bytes(40, 0, 42))), 1);
        Kit.due("a call that takes none, on ten", Kit.make(x, 0, 0,
                Kit.join(Kit.times(10, 1, 5), Kit.bytes(40, 0, 42))), -14);
    }

    private static void notAsTold() {
        int[] row = {1, 5, 36};
        int[] one = {1, 5};
        int[] on = {1, 1, 42};
        int[] intTakers = {19, 36, 41, 42, 43};
        for (int op : intTakers) {
            wrong(op + " of a ROW", Kit.join(row, Kit.bytes(op), on));
        }
        for (int op = 9; op <= 18; op++) {
            wrong(op + " of INT, ROW", Kit.join(one, row, Kit.bytes(op), on));
            wrong(op + " of ROW, INT", Kit.join(row, one, Kit.bytes(op), on));
        }
        for (int op = 21; op <= 26; op++) {
            wrong(op + " of a ROW", Kit.join(row, Kit.bytes(op, 2), on));
        }
        for (int op = 27; op <= 32; op++) {
            wrong(op + " of INT, ROW", Kit.join(one, row, Kit.bytes(op, 2), on));
            wrong(op + " of ROW, INT", Kit.join(row, one, Kit.bytes(op, 2), on));
        }
        wrong("table of a ROW", Kit.join(row, Kit.bytes(33, 1, 0, 6, 0, 6), on));
        wrong("put of a ROW", Kit.join(row, Kit.bytes(35, 0), on));
        wrong("size of an INT", Kit.join(one, Kit.bytes(37), on));
        wrong("take of INT, INT", Kit.join(one, one, Kit.bytes(38), on));
        wrong("take of ROW, ROW", Kit.join(row, row, Kit.bytes(38), on));
        wrong("lay of INT, INT, INT", Kit.join(one, one, one, Kit.bytes(39), on));
        wrong("lay of ROW, ROW, INT", Kit.join(row, row, one, Kit.bytes(39), on));
        wrong("lay of ROW, INT, ROW", Kit.join(row, one, row, Kit.bytes(39), on));
        wrong("call of a ROW", Kit.join(row, Kit.bytes(40, 0, 42)));
        wrong("inc of a ROW", Kit.join(row, Kit.bytes(4, 1, 5, 1, 1), on));
        wrong("inc of NO", Kit.join(Kit.bytes(5, 1, 1), on));
        for (int[] v : new int[][] {one, row}) {
            well("store", Kit.join(v, Kit.bytes(4, 1), on));
            well("dup", Kit.join(v, Kit.bytes(6), on));
            well("pop", Kit.join(v, Kit.bytes(7), on));
            well("swap", Kit.join(v, one, Kit.bytes(8), on));
            well("swap", Kit.join(v, row, Kit.bytes(8), on));
        }
        // What each puts is as told too.
        int[][] ints = {{1, 5, 36, 37}, {1, 5, 36, 1, 0, 38}, {34, 0}, {1, 5, 19}, {1, 5, 40, 0}};
        for (int[] puts : ints) {
            well("an INT is put", Kit.join(puts, Kit.bytes(42)));
        }
        wrong("no INT is put", Kit.join(row, Kit.bytes(42)));
    }

    private static void loadOfNo() {
        for (int n = 1; n < 4; n++) {
            wrong("LOCAL " + n, Kit.bytes(3, n, 7, 1, 1, 42));
        }
        well("an ARGUMENT", Kit.bytes(3, 0, 42));
        wrong("stored on one way alone", Kit.bytes(3, 0, 21, 6, 1, 1, 4, 1, 3, 1, 42));
        wrong("unlike on two ways", Kit.bytes(3, 0, 21, 8, 1, 1, 4, 1, 20, 7, 1, 1, 36, 4, 1, 3, 1, 7, 1, 1, 42));
        well("alike on two ways", Kit.bytes(3, 0, 21, 8, 1, 1, 4, 1, 20, 7, 1, 1, 0, 4, 1, 3, 1, 7, 1, 1, 42));
        // It is NO only as the jump back is looked at.
        wrong("by a jump back", Kit.bytes(1, 1, 4, 1, 3, 1, 7, 1, 1, 36, 4, 1, 20, -8));
        well("where it can't be come to", Kit.bytes(1, 1, 42, 3, 1, 42));
    }

    private static void end() {
        int[][] last = {{0}, {1, 1}, {1, 1, 7}, {1, 1, 43}, {3, 0, 21, -2}, {3, 0, 35, 0}, {5, 0, 1}, {40, 0}};
        for (int[] code : last) {
            wrong(code[0] + " ..", code[0] == 40 ? Kit.join(Kit.bytes(1, 1), code) : code);
        }
        well("give", Kit.bytes(1, 1, 42));
        well("throw", Kit.bytes(1, 1, 41));
        well("jump", Kit.bytes(20, 0));
        well("long jump", Kit.bytes(84, 0, 0));
        well("table", Kit.bytes(3, 0, 33, 1, 255, 254, 255, 254));
        well("an end that can't be come to", Kit.bytes(1, 1, 42, 0));
        wrong("an end that only a HANDLER comes to", Kit.bytes(1, 1, 42, 7), new int[] {0, 3, 3, 0});
        wrong("the 400th", Kit.times(400, 0));
    }

    private static void store() {
        ProbeLoom x = Kit.loomOf(1, 2, Kit.bytes(1, 1, 4, 1, 1, 1, 36, 4, 1, 1, 1, 36, 4, 0, 1, 1, 4, 0, 3, 0, 42));
        dueType("ahead", x, 2, 2, NO);
        dueType("INT over NO", x, 4, 2, INT);
        dueType("ROW over INT", x, 9, 2, ROW);
        dueType("ROW over an ARGUMENT", x, 14, 1, ROW);
        dueType("INT over ROW", x, 18, 1, INT);
        dueType("no other LOCAL", x, 18, 2, ROW);
        ProbeLoom all = Kit.loomOf(4, 12, Kit.bytes(1, 1, 36, 4, 11, 1, 1, 42));
        for (int n = 0; n < 12; n++) {
            dueType("LOCAL " + n, all, 5, n + 1, n < 4 ? INT : n == 11 ? ROW : NO);
        }
    }
}
