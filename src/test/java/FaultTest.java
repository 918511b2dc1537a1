/** Promises 4 and 5: make and place, with every FAULT and which comes first. */
public final class FaultTest {
    private static final int FORM = -11;
    private static final int JUMP = -12;
    private static final int HANDLER = -13;

    public static void main(String[] args) {
        head();
        ops();
        operands();
        beyondLength();
        lacking();
        tail();
        jumps();
        handlers();
        order();
        numbers();
        Kit.end();
    }

    private static void due(String what, int fault, int place, int... tape) {
        ProbeLoom x = new ProbeLoom();
        Kit.feed(x, tape);
        Kit.due(what + ": make", x.make(), fault);
        Kit.due(what + ": place", x.place(), place);
        Kit.due(what + ": tape", x.count(2), 0);
        Kit.due(what + ": methods", x.count(0), fault < 0 ? 0 : 1);
    }

    private static void code(String what, int fault, int place, int... code) {
        due(what, fault, place, Kit.tell(1, 2, code, Kit.NO_HANDLERS));
    }

    private static void head() {
        due("arguments 5", FORM, 0, 5, 12, 0, 3, 1, 1, 42, 0);
        due("arguments 255", FORM, 0, 255, 12, 0, 3, 1, 1, 42, 0);
        due("arguments 4", 0, -1, 4, 4, 0, 3, 1, 1, 42, 0);
        due("locals below arguments", FORM, 1, 2, 1, 0, 3, 1, 1, 42, 0);
        due("locals 12", 0, -1, 0, 12, 0, 3, 1, 1, 42, 0);
        due("locals 13", FORM, 1, 0, 13, 0, 3, 1, 1, 42, 0);
        due("length 0", FORM, 2, 0, 0, 0, 0, 0);
        due("length 401", FORM, 2, Kit.join(Kit.bytes(0, 0, 1, 145), Kit.times(398, 0), Kit.bytes(1, 1, 42, 0)));
        due("length 400", 0, -1, Kit.join(Kit.bytes(0, 0, 1, 144), Kit.times(397, 0), Kit.bytes(1, 1, 42, 0)));
        due("length 65535", FORM, 2, 0, 0, 255, 255, 1, 1, 42, 0);
        due("length 1", -14, 0, 0, 0, 0, 1, 42, 0);
        due("arguments ahead of locals", FORM, 0, 5, 0, 0, 0);
        due("arguments alone, and wrong", FORM, 0, 5);
        due("locals, the rest lacks", FORM, 1, 0, 13);
        due("locals below arguments, the rest lacks", FORM, 1, 3, 2, 0);
        due("the first half of a length", FORM, 3, 0, 0, 255);
    }

    private static void ops() {
        for (int op = 0; op < 256; op++) {
            if (op > 43 && op < 84 || op > 96) {
                code("no op " + op, FORM, 7, 1, 1, 42, op);
                code("no op " + op + ", first", FORM, 4, op, 1, 42);
            }
        }
        code("the first of two", FORM, 5, 0, 44, 44, 42);
    }

    private static void operands() {
        code("load 2", FORM, 5, 3, 2, 42);
        code("load 1, which is NO", -14, 0, 3, 1, 42);
        code("load 0", 0, -1, 3, 0, 42);
        code("store 2", FORM, 7, 1, 1, 4, 2, 1, 1, 42);
        code("store 1", 0, -1, 1, 1, 4, 1, 1, 1, 42);
        code("inc 2", FORM, 5, 5, 2, 1, 1, 1, 42);
        code("inc 0", 0, -1, 5, 0, 1, 1, 1, 42);
        code("get 8", FORM, 5, 34, 8, 42);
        code("get 7", 0, -1, 34, 7, 42);
        code("put 8", FORM, 7, 1, 1, 35, 8, 1, 1, 42);
        code("put 255", FORM, 7, 1, 1, 35, 255, 1, 1, 42);
        code("call 1", FORM, 7, 1, 1, 40, 1, 42);
        code("call itself", 0, -1, 1, 1, 40, 0, 42);
        code("table 0", FORM, 7, 1, 1, 33, 0, 0, 4, 1, 1, 42);
        code("table 17", FORM, 7, Kit.join(Kit.bytes(1, 1, 33, 17), Kit.times(18, 0, 38), Kit.bytes(1, 1, 42)));
        code("table 16", 0, -1, Kit.join(Kit.bytes(1, 1, 33, 16), Kit.times(17, 0, 36), Kit.bytes(1, 1, 42)));
        code("table 1", 0, -1, 1, 1, 33, 1, 0, 6, 0, 6, 1, 1, 42);
        code("the first operand of two", FORM, 5, 3, 9, 3, 9, 42);
    }

    private static void beyondLength() {
        code("push s8 beyond", FORM, 5, 0, 1);
        code("push s32 beyond", FORM, 5, 0, 2, 0, 0, 0);
        code("load beyond, n is none", FORM, 4, 3);
        code("inc beyond: its op ahead of its n", FORM, 4, 5, 9);
        code("jump beyond", FORM, 6, 1, 1, 20);
        code("long jump beyond", FORM, 6, 1, 1, 84, 0);
        code("call beyond", FORM, 4, 40);
        code("table beyond at once", FORM, 6, 1, 1, 33);
        code("table's n within, and none", FORM, 7, 1, 1, 33, 0);
        code("table's n within, and too many", FORM, 7, 1, 1, 33, 17);
        code("table's n within, and well", FORM, 6, 1, 1, 33, 1);
        code("table beyond by one", FORM, 6, 1, 1, 33, 1, 0, 0, 0);
        // Its OP is ahead of LENGTH's end, whatever stands on the TAPE behind it.
        due("beyond length, bytes there", FORM, 4, 0, 0, 0, 1, 1, 0, 0, 0);
    }

    private static void lacking() {
        int[] whole = Kit.tell(1, 2, Kit.bytes(5, 0, 1, 2, 0, 0, 0, 1, 33, 1, 0, 6, 0, 6, 1, 3, 42),
                new int[][] {{0, 3, 14, 0}});
        // The handler's target is where the stack is empty: all else is well.
        ProbeLoom all = new ProbeLoom();
        Kit.feed(all, whole);
        Kit.due("whole", all.make(), -14);
        for (int length = 0; length < whole.length; length++) {
            due("only " + length + " bytes", FORM, length, java.util.Arrays.copyOf(whole, length));
        }
        due("wrong byte ahead of what lacks", FORM, 5, 0, 1, 0, 9, 5, 1);
        due("lacking n of a table", FORM, 7, 0, 1, 0, 9, 1, 1, 33);
        due("wrong n of a table, the rest lacks", FORM, 7, 0, 1, 0, 9, 1, 1, 33, 0);
        due("table beyond length, the rest lacks", FORM, 6, 0, 1, 0, 7, 1, 1, 33, 1);
        due("op beyond length, the rest lacks", FORM, 5, 0, 1, 0, 3, 0, 2);
    }

    private static void tail() {
        due("one too much", FORM, 8, 0, 0, 0, 3, 1, 1, 42, 0, 0);
        due("many too much", FORM, 8, 0, 0, 0, 3, 1, 1, 42, 0, 9, 9, 9);
        due("9 handlers", FORM, 7, Kit.join(Kit.bytes(0, 0, 0, 3, 1, 1, 42, 9), Kit.times(63, 0)));
        int[][] eight = new int[8][];
        for (int k = 0; k < 8; k++) {
            eight[k] = new int[] {0, 3, 3, k * 36};
        }
        due("8 handlers", 0, -1, Kit.tell(0, 0, Kit.bytes(1, 1, 42, 42), eight));
        due("behind handlers", FORM, 65, Kit.join(Kit.tell(0, 0, Kit.bytes(1, 1, 42, 42), eight), Kit.bytes(0)));
    }

    private static void jumps() {
        code("to the end", JUMP, 4, 20, 2);
        code("beyond", JUMP, 4, 20, 127);
        code("ahead of the code", JUMP, 5, 0, 20, 254);
        code("into an operand", JUMP, 4, 20, 3, 1, 1, 42);
        code("into itself", JUMP, 4, 20, 1, 1, 1, 42);
        code("well", 0, -1, 20, 2, 1, 1, 42);
        code("to itself", 0, -1, 20, 0);
        code("long to the end", JUMP, 4, 84, 0, 3);
        code("long far", JUMP, 4, 84, 128, 0, 1, 1, 42);
        code("long back", 0, -1, 20, 3, 42, 1, 1, 84, 255, 253);
        for (int op = 21; op <= 32; op++) {
            int[] two = Kit.bytes(1, 1, 1, 1, op, 3, 1, 1, 42);
            int[] longer = Kit.bytes(1, 1, 1, 1, op + 64, 0, 4, 1, 1, 42);
            code("op " + op, JUMP, 8, two);
            code("op " + (op + 64), JUMP, 8, longer);
        }
        code("table's first", JUMP, 6, 1, 1, 33, 1, 0, 7, 0, 6, 1, 1, 42);
        code("table's last", JUMP, 6, 1, 1, 33, 1, 0, 6, 0, 7, 1, 1, 42);
        code("in what can't be come to", JUMP, 7, 1, 1, 42, 20, 1, 0);
        code("the first of two", JUMP, 5, 0, 20, 9, 20, 9, 1, 1, 42);
    }

    private static void handlers() {
        int[] code = {1, 1, 42, 42};
        int[][] wrong = {{1, 3, 3, 0}, {4, 4, 3, 0}, {0, 1, 3, 0}, {0, 5, 3, 0}, {0, 3, 1, 0}, {0, 3, 4, 0},
            {2, 2, 3, 0}, {3, 2, 3, 0}, {0, 65535, 3, 0}, {65535, 4, 3, 0}, {0, 0, 3, 0}};
        for (int[] h : wrong) {
            String what = h[0] + ".." + h[1] + " to " + h[2];
            due(what, HANDLER, 9, Kit.tell(0, 0, code, new int[][] {h}));
            due(what + " behind a good one", HANDLER, 16, Kit.tell(0, 0, code, new int[][] {{0, 3, 3, 0}, h}));
        }
        due("to length", 0, -1, Kit.tell(0, 0, code, new int[][] {{0, 4, 3, 7}}));
    }

    private static void order() {
        due("form ahead of jump", FORM, 6, Kit.tell(0, 0, Kit.bytes(20, 9, 44), Kit.NO_HANDLERS));
        due("form behind all ahead of jump", FORM, 10,
                Kit.join(Kit.tell(0, 0, Kit.bytes(20, 9, 1, 1, 42), Kit.NO_HANDLERS), Kit.bytes(0)));
        due("jump ahead of handler", JUMP, 4, Kit.tell(0, 0, Kit.bytes(20, 9, 1, 1, 42), new int[][] {{1, 0, 9, 0}}));
        due("handler ahead of types", HANDLER, 6, Kit.tell(0, 0, Kit.bytes(42), new int[][] {{0, 0, 0, 0}}));
        due("types", -14, 0, Kit.tell(0, 0, Kit.bytes(42), new int[][] {{0, 1, 0, 0}}));
    }

    private static void numbers() {
        ProbeLoom x = new ProbeLoom();
        int[] good = Kit.tell(0, 0, Kit.bytes(1, 1, 42), Kit.NO_HANDLERS);
        for (int m = 0; m < 6; m++) {
            Kit.feed(x, 9);
            Kit.due("a fault", x.make(), FORM);
            Kit.due("its place", x.place(), 0);
            Kit.due("its place again", x.place(), 0);
            int[] calls = Kit.tell(0, 0, Kit.bytes(40, m + 1, 42), Kit.NO_HANDLERS);
            Kit.feed(x, calls);
            Kit.due("calls one that is not there", x.make(), FORM);
            Kit.due("place of that", x.place(), 5);
            Kit.feed(x, m == 0 ? good : Kit.tell(0, 0, Kit.bytes(40, m - 1, 42), Kit.NO_HANDLERS));
            Kit.due("number", x.make(), m);
            Kit.due("no place", x.place(), -1);
        }
        Kit.feed(x, good);
        Kit.due("a seventh", x.make(), -3);
        Kit.due("tape behind it", x.count(2), 0);
        Kit.feed(x, 9);
        Kit.due("FULL ahead of a fault", x.make(), -3);
        Kit.due("no fault was told", x.place(), -1);
        Kit.due("six", x.count(0), 6);
        Kit.due("the first is as it was", x.octet(0, false, 0), 1);
        ProbeLoom y = new ProbeLoom();
        Kit.due("empty tape", y.make(), FORM);
        Kit.due("its place", y.place(), 0);
        Kit.feed(y, 9);
        y.make();
        Kit.due("a new number behind a fault is not skipped", Kit.make(y, 0, 0, Kit.bytes(1, 1, 42)), 0);
    }
}
