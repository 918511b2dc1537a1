/** Promises 6, 7 and 8: method, octet, handler. */
public final class MethodTest {
    public static void main(String[] args) {
        plain();
        woven();
        wrongCalls();
        Kit.end();
    }

    /** Two arguments; div under a handler of 101, then one of any; marks the kind. */
    private static final int[] CODE = {3, 0, 3, 1, 12, 42, 6, 43, 19, 42, 0, 0};
    private static final int[][] HANDLERS = {{4, 6, 6, 101}, {0, 12, 8, 0}};

    private static void plain() {
        ProbeLoom x = Kit.loomOf(2, 5, CODE, HANDLERS);
        int[] want = {2, 5, 12, 2, 10, 2, -1, -1, -1, -1};
        for (int what = 0; what < want.length; what++) {
            Kit.due("method " + what, x.method(0, what), want[what]);
        }
        for (int i = 0; i < CODE.length; i++) {
            Kit.due("octet " + i, x.octet(0, false, i), CODE[i]);
            Kit.due("woven octet " + i, x.octet(0, true, i), -1);
        }
        Kit.dueHandler("plain", x, false, 0, 4, 6, 6, 101);
        Kit.dueHandler("plain", x, false, 1, 0, 12, 8, 0);
        Kit.dueHandler("plain, none such", x, false, 2, -1, -1, -1, -1);
        Kit.dueHandler("not woven", x, true, 0, -1, -1, -1, -1);
        ProbeLoom tall = Kit.loomOf(0, 0, Kit.join(Kit.times(10, 1, 5), Kit.times(9, 7), Kit.bytes(42)));
        Kit.due("greatest height", tall.method(0, 5), 10);
        // What can't be come to does not count, and neither does what comes behind the last.
        ProbeLoom low = Kit.loomOf(0, 0, Kit.bytes(1, 5, 42, 6, 6, 6, 42));
        Kit.due("height of what is come to", low.method(0, 5), 1);
        Kit.due("all instructions", low.method(0, 4), 6);
        Kit.due("no height at all", Kit.loomOf(0, 0, Kit.bytes(20, 0)).method(0, 5), 0);
    }

    private static void woven() {
        ProbeLoom x = Kit.loomOf(2, 5, CODE, HANDLERS);
        Kit.due("weave without probes", x.weave(0), 12);
        int[] none = {12, 2, 0, 0};
        for (int what = 6; what <= 9; what++) {
            Kit.due("without probes: method " + what, x.method(0, what), none[what - 6]);
        }
        Kit.dueWoven("without probes", x, 0, CODE);
        Kit.dueHandler("without probes", x, true, 0, 4, 6, 6, 101);
        Kit.dueHandler("without probes", x, true, 1, 0, 12, 8, 0);
        x.probe(2, 0, 0, 0, 0);
        x.probe(3, 0, 0, 0, 0);
        x.probe(5, 0, 6, 0, 0);
        x.probe(0, 0, 6, 0, 0);
        Kit.due("not woven anew by a probe", x.method(0, 6), 12);
        Kit.due("weave", x.weave(0), 27);
        int[] some = {27, 3, 0, 2};
        for (int what = 6; what <= 9; what++) {
            Kit.due("with probes: method " + what, x.method(0, what), some[what - 6]);
        }
        Kit.dueWoven("with probes", x, 0, 50, 0, 3, 0, 3, 1, 12, 51, 1, 42, 48, 3, 6, 43, 19, 51, 1, 42, 0, 0,
                55, 2, 20, -12, 52, 1, 58);
        Kit.dueHandler("with probes", x, true, 0, 6, 10, 20, 101);
        Kit.dueHandler("with probes", x, true, 1, 2, 20, 14, 0);
        Kit.dueHandler("with probes", x, true, 2, 2, 20, 24, 0);
        Kit.dueHandler("with probes, none such", x, true, 3, -1, -1, -1, -1);
        Kit.dueHandler("the plain stay", x, false, 1, 0, 12, 8, 0);
        for (int what = 0; what < 6; what++) {
            int[] want = {2, 5, 12, 2, 10, 2};
            Kit.due("the plain stays: method " + what, x.method(0, what), want[what]);
        }
    }

    private static void wrongCalls() {
        ProbeLoom x = Kit.loomOf(2, 5, CODE, HANDLERS);
        x.weave(0);
        int[] wild = {-1, 1, 6, 7, Integer.MIN_VALUE, Integer.MAX_VALUE};
        for (int m : wild) {
            Kit.due("method of " + m, x.method(m, 0), -2);
            Kit.due("octet of " + m, x.octet(m, false, 0), -1);
            Kit.due("woven octet of " + m, x.octet(m, true, 0), -1);
            Kit.due("handler of " + m, x.handler(m, false, 0, 0), -1);
            Kit.due("woven handler of " + m, x.handler(m, true, 0, 0), -1);
        }
        Kit.due("what -1", x.method(0, -1), -2);
        Kit.due("what 10", x.method(0, 10), -2);
        Kit.due("what most", x.method(0, Integer.MAX_VALUE), -2);
        Kit.due("octet -1", x.octet(0, false, -1), -1);
        Kit.due("octet 12", x.octet(0, false, 12), -1);
        Kit.due("octet most", x.octet(0, false, Integer.MAX_VALUE), -1);
        Kit.due("woven octet 12", x.octet(0, true, 12), -1);
        for (boolean woven : new boolean[] {false, true}) {
            Kit.due("handler -1", x.handler(0, woven, -1, 0), -1);
            Kit.due("handler 2", x.handler(0, woven, 2, 0), -1);
            Kit.due("handler most", x.handler(0, woven, Integer.MAX_VALUE, 0), -1);
            Kit.due("handler what -1", x.handler(0, woven, 0, -1), -1);
            Kit.due("handler what 4", x.handler(0, woven, 0, 4), -1);
        }
    }
}
