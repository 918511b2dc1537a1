/** Promise 9 and the TYPES of promise 4: type, and what is judged wrong. */
public final class TypeTest {
    public static void main(String[] args) {
        told();
        joins();
        handlers();
        wrongTypes();
        heights();
        ends();
        manyPasses();
        manyAtOnce();
        wrongCalls();
        Kit.end();
    }

    private static void well(String what, int[] code, int[]... handlers) {
        Kit.due(what, Kit.make(new ProbeLoom(), 1, 4, code, handlers), 0);
    }

    private static void wrong(String what, int[] code, int[]... handlers) {
        ProbeLoom x = new ProbeLoom();
        Kit.due(what, Kit.make(x, 1, 4, code, handlers), -14);
        Kit.due(what + ": place", x.place(), 0);
    }

    private static void types(ProbeLoom x, int place, int... want) {
        for (int what = 0; what < want.length; what++) {
            Kit.due("type at " + place + " of " + what, x.type(0, place, what), want[what]);
        }
    }

    private static void told() {
        // row in local 2, then row, int on the stack
        ProbeLoom x = Kit.loomOf(2, 3, Kit.bytes(1, 5, 36, 4, 2, 3, 2, 3, 1, 8, 7, 42, 0));
        types(x, 0, 0, 1, 1, 0, -1, -1, -1, -1, -1, -1, -1, -1, -1, -1);
        types(x, 2, 1, 1, 1, 0, -1, -1, -1, -1, -1, -1, -1, -1, -1, 1, -1);
        types(x, 3, 1, 1, 1, 0, -1, -1, -1, -1, -1, -1, -1, -1, -1, 2, -1);
        types(x, 5, 0, 1, 1, 2, -1, -1, -1, -1, -1, -1, -1, -1, -1, -1, -1);
        types(x, 9, 2, 1, 1, 2, -1, -1, -1, -1, -1, -1, -1, -1, -1, 2, 1, -1);
        types(x, 10, 2, 1, 1, 2, -1, -1, -1, -1, -1, -1, -1, -1, -1, 1, 2, -1);
        types(x, 11, 1, 1, 1, 2, -1, -1, -1, -1, -1, -1, -1, -1, -1, 1, -1, -1);
        types(x, 12, -1, -1, -1, -1);
        types(x, 1, -1, -1, -1, -1);
        ProbeLoom tall = Kit.loomOf(0, 12, Kit.join(Kit.times(10, 1, 5), Kit.bytes(4, 11), Kit.bytes(42)));
        Kit.due("the highest cell", tall.type(0, 20, 22), 1);
        Kit.due("the highest cell gone", tall.type(0, 22, 22), -1);
        Kit.due("the last local", tall.type(0, 22, 12), 1);
        Kit.due("the last local ahead", tall.type(0, 20, 12), 0);
    }

    private static void joins() {
        // Local 1 is an INT on one way and a ROW on the other, local 2 a ROW on both.
        int[] code = {1, 1, 36, 4, 2, 3, 0, 21, 7, 1, 1, 4, 1, 20, 7, 1, 1, 36, 4, 1, 3, 0, 42};
        code[8] = 8;
        ProbeLoom x = Kit.loomOf(1, 4, code);
        Kit.due("INT on one way", x.type(0, 13, 2), 1);
        Kit.due("unlike are NO", x.type(0, 20, 2), 0);
        Kit.due("like stay", x.type(0, 20, 3), 2);
        int[] load = code.clone();
        load[21] = 1;
        wrong("load of what became NO", load);
        // Round a loop: what is stored behind makes it NO at the beginning.
        wrong("NO by a jump back", Kit.bytes(1, 1, 4, 1, 3, 1, 7, 1, 1, 36, 4, 1, 20, 248));
        well("the same type by a jump back", Kit.bytes(1, 1, 4, 1, 3, 1, 7, 1, 1, 0, 4, 1, 20, 248));
        wrong("stacks of unlike height", Kit.bytes(3, 0, 21, 4, 1, 1, 1, 1, 42));
        well("stacks of the same height", Kit.bytes(3, 0, 21, 6, 1, 1, 20, 4, 1, 2, 42));
        wrong("stacks of unlike types", Kit.bytes(3, 0, 21, 6, 1, 1, 20, 5, 1, 2, 36, 7, 3, 0, 42));
        well("a table joins", Kit.bytes(3, 0, 33, 1, 0, 7, 0, 6, 0, 1, 2, 42));
        wrong("a table leads to unlike stacks", Kit.bytes(3, 0, 33, 1, 0, 6, 0, 8, 1, 2, 1, 2, 42));
    }

    private static void handlers() {
        ProbeLoom x = Kit.loomOf(1, 3, Kit.bytes(1, 1, 36, 4, 1, 3, 0, 42, 42),
                new int[] {3, 8, 8, 0});
        types(x, 8, 1, 1, 0, 0);
        Kit.due("just an INT", x.type(0, 8, 13), 1);
        Kit.due("and no more", x.type(0, 8, 14), -1);
        // What an instruction does comes to the target only by the next one in the range.
        ProbeLoom y = Kit.loomOf(1, 3, Kit.bytes(1, 1, 36, 4, 1, 3, 0, 42, 42), new int[] {5, 8, 8, 0});
        Kit.due("all behind the store", y.type(0, 8, 2), 2);
        ProbeLoom z = Kit.loomOf(1, 3, Kit.bytes(1, 1, 36, 4, 1, 3, 0, 42, 42), new int[] {0, 5, 8, 0});
        Kit.due("none behind the store", z.type(0, 8, 2), 0);
        ProbeLoom far = Kit.loomOf(1, 3, Kit.bytes(1, 1, 42, 0, 42, 42), new int[] {3, 5, 5, 0});
        Kit.due("a range that can't be come to", far.type(0, 5, 0), -1);
        wrong("a target that needs two", Kit.bytes(1, 1, 42, 9, 42), new int[] {0, 3, 3, 0});
        wrong("a target that is come to otherwise", Kit.bytes(0, 1, 1, 42), new int[] {0, 1, 1, 0});
        well("a target that is come to alike", Kit.bytes(1, 1, 0, 42), new int[] {0, 2, 2, 0});
        wrong("a target of a row on the stack", Kit.bytes(1, 1, 36, 7, 1, 1, 42), new int[] {0, 3, 3, 0});
        well("a range with its own target", Kit.bytes(1, 1, 42, 42), new int[] {0, 4, 3, 0});
        wrong("the target loads what is NO there", Kit.bytes(1, 1, 4, 1, 3, 1, 42, 7, 3, 1, 42), new int[] {2, 6, 7, 0});
        well("the target loads what is there", Kit.bytes(1, 1, 4, 1, 3, 1, 42, 7, 3, 1, 42), new int[] {4, 6, 7, 0});
    }

    private static void wrongTypes() {
        int[] row = {1, 1, 36};
        int[] one = {1, 1};
        int[] give = {1, 1, 42};
        for (int op = 9; op <= 18; op++) {
            well("sum " + op, Kit.join(one, one, Kit.bytes(op, 42)));
            wrong("sum of one " + op, Kit.join(one, Kit.bytes(op, 42)));
            wrong("sum with a row " + op, Kit.join(one, row, Kit.bytes(op, 42)));
            wrong("sum with a row below " + op, Kit.join(row, one, Kit.bytes(op, 42)));
        }
        int[] takers = {19, 36, 43, 41, 42};
        for (int op : takers) {
            wrong("op " + op + " of none", Kit.join(Kit.bytes(op), give));
            wrong("op " + op + " of a row", Kit.join(row, Kit.bytes(op), give));
            well("op " + op + " of an int", Kit.join(one, Kit.bytes(op), give));
        }
        wrong("put of a row", Kit.join(row, Kit.bytes(35, 0), give));
        for (int op = 21; op <= 32; op++) {
            int[] second = op >= 27 ? one : Kit.bytes();
            well("jump " + op, Kit.join(second, one, Kit.bytes(op, 2), give));
            well("jump " + (op + 64), Kit.join(second, one, Kit.bytes(op + 64, 0, 3), give));
            wrong("jump of a row " + op, Kit.join(second, row, Kit.bytes(op, 2), give));
            wrong("jump of too few " + op, Kit.join(second, Kit.bytes(op, 2), give));
        }
        wrong("jump by a row below", Kit.join(row, one, Kit.bytes(27, 2), give));
        wrong("table of a row", Kit.join(row, Kit.bytes(33, 1, 0, 6, 0, 6), give));
        wrong("size of an int", Kit.join(one, Kit.bytes(37, 42)));
        well("size of a row", Kit.join(row, Kit.bytes(37, 42)));
        wrong("take of an int", Kit.join(one, one, Kit.bytes(38, 42)));
        wrong("take by a row", Kit.join(row, row, Kit.bytes(38, 42)));
        well("take", Kit.join(row, one, Kit.bytes(38, 42)));
        well("lay", Kit.join(row, one, one, Kit.bytes(39), give));
        wrong("lay in an int", Kit.join(one, one, one, Kit.bytes(39), give));
        wrong("lay by a row", Kit.join(row, row, one, Kit.bytes(39), give));
        wrong("lay of a row", Kit.join(row, one, row, Kit.bytes(39), give));
        wrong("inc of what is NO", Kit.join(Kit.bytes(5, 1, 1), give));
        wrong("inc of a row", Kit.join(row, Kit.bytes(4, 1, 5, 1, 1), give));
        well("inc of an int", Kit.join(one, Kit.bytes(4, 1, 5, 1, 1), give));
        well("any of a row", Kit.join(row, one, Kit.bytes(8, 6, 7, 7, 42)));
        wrong("swap of one", Kit.join(one, Kit.bytes(8, 42)));
        wrong("dup of none", Kit.bytes(6, 42));
        wrong("pop of none", Kit.join(Kit.bytes(7), give));
        wrong("store of none", Kit.join(Kit.bytes(4, 1), give));
        wrong("call of none", Kit.bytes(40, 0, 42));
        wrong("call of a row", Kit.join(row, Kit.bytes(40, 0, 42)));
        ProbeLoom x = Kit.loomOf(3, 3, give);
        Kit.due("call with two of three", Kit.make(x, 0, 0, Kit.bytes(1, 1, 1, 1, 40, 0, 42)), -14);
        Kit.due("call with three", Kit.make(x, 0, 0, Kit.bytes(1, 1, 1, 1, 1, 1, 40, 0, 42)), 1);
        Kit.due("call of one without arguments", Kit.make(x, 0, 0, Kit.bytes(40, 1, 42)), 2);
    }

    private static void heights() {
        int[] ten = Kit.times(10, 1, 5);
        well("ten", Kit.join(ten, Kit.bytes(42)));
        wrong("eleven", Kit.join(ten, Kit.bytes(1, 5, 42)));
        wrong("eleven by dup", Kit.join(ten, Kit.bytes(6, 42)));
        wrong("eleven by load", Kit.join(ten, Kit.bytes(3, 0, 42)));
        wrong("eleven by get", Kit.join(ten, Kit.bytes(34, 0, 42)));
        well("swap of ten", Kit.join(ten, Kit.bytes(8, 42)));
        well("call with ten", Kit.join(ten, Kit.bytes(40, 0, 42)));
        wrong("eleven where it is come to by a handler", Kit.join(Kit.bytes(1, 1, 42), ten, Kit.bytes(42)),
                new int[] {0, 2, 3, 0});
    }

    private static void ends() {
        wrong("no end", Kit.bytes(0));
        wrong("push at the end", Kit.bytes(1, 1));
        wrong("choice at the end", Kit.bytes(1, 1, 22, 254));
        well("give at the end", Kit.bytes(1, 1, 42));
        well("throw at the end", Kit.bytes(1, 1, 41));
        well("jump at the end", Kit.bytes(20, 0));
        well("long jump at the end", Kit.bytes(84, 0, 0));
        well("an end that can't be come to", Kit.bytes(1, 1, 42, 0));
        well("wrong types that can't be come to", Kit.bytes(1, 1, 42, 9, 9));
        well("a table at the end", Kit.bytes(3, 0, 33, 1, 255, 254, 255, 254));
    }

    /** A long way that is come to 13 times, each time with one LOCAL more that is NO. */
    private static int[] comeToThirteenTimes(int... lastOfTheWay) {
        int way = 8 * 4 + 12 * 10;
        int[] code = {};
        for (int n = 4; n < 12; n++) {
            code = Kit.join(code, Kit.bytes(1, 0, 4, n));
        }
        for (int n = 0; n < 12; n++) {
            int distance = way - (code.length + 2);
            code = Kit.join(code, Kit.bytes(1, 0, 86, distance >> 8, distance & 255, 1, 0, 36, 4, n));
        }
        return Kit.join(code, Kit.times(400 - way - lastOfTheWay.length, 0), lastOfTheWay);
    }

    private static void manyPasses() {
        ProbeLoom x = Kit.loomOf(4, 12, comeToThirteenTimes(1, 0, 42));
        for (int place = 152; place < 400; place++) {
            boolean begins = place != 398;
            Kit.due("height at " + place, x.type(0, place, 0), !begins ? -1 : place == 399 ? 1 : 0);
            for (int what = 1; what <= 12; what++) {
                Kit.due("NO at " + place + " of " + what, x.type(0, place, what), begins ? 0 : -1);
            }
        }
        Kit.due("the last LOCAL ahead of it", x.type(0, 150, 12), 1);
        for (int n = 0; n < 12; n++) {
            Kit.due("load of LOCAL " + n + " at the end of the way",
                    Kit.make(new ProbeLoom(), 4, 12, comeToThirteenTimes(3, n, 7, 1, 0, 42)), -14);
        }
    }

    /** 7 tables: 16 ways of each lead to gives of their own, its last one to the next table. */
    private static void manyAtOnce() {
        int tables = 7;
        int gives = 2 + 37 * tables;
        int[] code = {1, 0};
        for (int t = 0; t < tables; t++) {
            int at = code.length + 1;
            code = Kit.join(code, Kit.bytes(6, 33, 16));
            for (int k = 0; k < 16; k++) {
                code = Kit.join(code, pair(gives + 16 * t + k - at));
            }
            code = Kit.join(code, pair((t < tables - 1 ? at + 36 : gives + 16 * tables) - at));
        }
        int end = gives + 16 * tables + 1;
        ProbeLoom x = Kit.loomOf(0, 0, Kit.join(code, Kit.times(end - gives, 42)));
        for (int place = gives; place < end; place++) {
            Kit.due("come to at " + place, x.type(0, place, 0), 1);
            Kit.due("an INT at " + place, x.type(0, place, 13), 1);
        }
        for (int wrongOne = gives; wrongOne < end; wrongOne++) {
            int[] other = Kit.join(code, Kit.times(end - gives, 42));
            other[wrongOne] = 37;
            Kit.due("size of an INT at " + wrongOne, Kit.make(new ProbeLoom(), 0, 0, other), -14);
        }
    }

    private static int[] pair(int value) {
        return Kit.bytes(value >> 8 & 255, value & 255);
    }

    private static void wrongCalls() {
        ProbeLoom x = Kit.loomOf(1, 2, Kit.bytes(1, 1, 42));
        int[] wild = {-1, 1, 6, Integer.MIN_VALUE, Integer.MAX_VALUE};
        for (int m : wild) {
            Kit.due("type of method " + m, x.type(m, 0, 0), -1);
        }
        int[] places = {-1, 1, 3, 400, Integer.MIN_VALUE, Integer.MAX_VALUE};
        for (int place : places) {
            Kit.due("type at " + place, x.type(0, place, 0), -1);
        }
        int[] whats = {-1, 3, 12, 14, 22, 23, 100, Integer.MIN_VALUE, Integer.MAX_VALUE};
        for (int what : whats) {
            Kit.due("type of " + what, x.type(0, 2, what), -1);
        }
    }
}
