/** Promises 11 and 12: probe and clear. */
public final class ProbeTest {
    /** One instruction of each OP, told of which by the places; only make()'s form matters. */
    public static void main(String[] args) {
        whichOps();
        places();
        faults();
        numbers();
        clear();
        Kit.end();
    }

    private static boolean in(int op, int... ranges) {
        for (int i = 0; i < ranges.length; i += 2) {
            if (op >= ranges[i] && op <= ranges[i + 1]) {
                return true;
            }
        }
        return false;
    }

    /** The OP stands at 3, where it can't be come to: PROBES look at the CODE alone. */
    private static ProbeLoom with(int op) {
        int[] operands = in(op, 20, 32) ? Kit.bytes(0) : in(op, 84, 96) ? Kit.bytes(0, 0)
                : op == 33 ? Kit.bytes(1, 0, 0, 0, 0) : op == 2 ? Kit.bytes(0, 0, 0, 0)
                : op == 5 ? Kit.bytes(0, 0) : in(op, 1, 1, 3, 4, 34, 35, 40, 40) ? Kit.bytes(0) : Kit.bytes();
        return Kit.loomOf(1, 1, Kit.join(Kit.bytes(1, 1, 42, op), operands));
    }

    private static void whichOps() {
        for (int op = 0; op <= 96; op++) {
            if (in(op, 44, 83)) {
                continue;
            }
            ProbeLoom x = with(op);
            int next = 0;
            for (int sort = 0; sort < 8; sort++) {
                boolean well = sort == 0 || sort == 6
                        || sort == 1 && in(op, 21, 32, 85, 96)
                        || sort == 4 && in(op, 35, 35, 39, 39)
                        || sort == 7 && in(op, 1, 2, 9, 19, 34, 34, 37, 38, 40, 40);
                Kit.due("sort " + sort + " of op " + op, x.probe(sort, 0, 3, 1, 1), well ? next++ : -2);
            }
        }
    }

    private static void places() {
        ProbeLoom x = Kit.loomOf(0, 0, Kit.bytes(1, 1, 42, 0, 42, 42), new int[] {0, 3, 3, 0}, new int[] {0, 3, 5, 7});
        int[] sorts = {-1, 8, Integer.MIN_VALUE, Integer.MAX_VALUE};
        for (int sort : sorts) {
            Kit.due("sort " + sort, x.probe(sort, 0, 0, 1, 1), -2);
        }
        int[] wild = {-1, 1, 6, Integer.MIN_VALUE, Integer.MAX_VALUE};
        for (int m : wild) {
            Kit.due("method " + m, x.probe(0, m, 0, 1, 1), -2);
        }
        int[] places = {-1, 1, 6, 7, 400, Integer.MIN_VALUE, Integer.MAX_VALUE};
        for (int place : places) {
            for (int sort = 0; sort < 8; sort++) {
                Kit.due("sort " + sort + " at " + place, x.probe(sort, 0, place, 1, 1), -2);
            }
        }
        Kit.due("ENTER not at 0", x.probe(2, 0, 2, 0, 0), -2);
        Kit.due("LEAVE not at 0", x.probe(3, 0, 2, 0, 0), -2);
        Kit.due("CAUGHT at no target", x.probe(5, 0, 4, 0, 0), -2);
        Kit.due("CAUGHT at the first", x.probe(5, 0, 0, 0, 0), -2);
        Kit.due("nothing came", x.count(1), 0);
        Kit.due("CAUGHT at a target", x.probe(5, 0, 3, 0, 0), 0);
        Kit.due("CAUGHT at another target", x.probe(5, 0, 5, -7, 1 << 30), 1);
        Kit.due("ENTER", x.probe(2, 0, 0, -1, -1), 2);
        Kit.due("LEAVE", x.probe(3, 0, 0, -1, -1), 3);
        Kit.due("REPLACE by the least", x.probe(7, 0, 0, Integer.MIN_VALUE, -1), 4);
        Kit.due("the same again", x.probe(7, 0, 0, Integer.MIN_VALUE, -1), 5);
    }

    private static void faults() {
        ProbeLoom x = Kit.loomOf(0, 0, Kit.bytes(1, 1, 42));
        int[][] wrong = {{0, 1}, {1001, 1}, {-1, 1}, {1, 0}, {1, 101}, {1, -1}, {Integer.MIN_VALUE, 1},
            {1, Integer.MAX_VALUE}};
        for (int[] xy : wrong) {
            Kit.due("fault " + xy[0] + " " + xy[1], x.probe(6, 0, 0, xy[0], xy[1]), -2);
        }
        Kit.due("fault 1 1", x.probe(6, 0, 0, 1, 1), 0);
        Kit.due("fault 1000 100", x.probe(6, 0, 2, 1000, 100), 1);
    }

    private static void numbers() {
        ProbeLoom x = Kit.loomOf(0, 0, Kit.bytes(1, 1, 42));
        Kit.make(x, 0, 0, Kit.bytes(40, 0, 42));
        for (int p = 0; p < 24; p++) {
            Kit.due("number", x.probe(0, p % 2, 0, 0, 0), p);
        }
        Kit.due("a 25th", x.probe(0, 0, 0, 0, 0), -3);
        Kit.due("BAD ahead of FULL", x.probe(0, 0, 1, 0, 0), -2);
        Kit.due("BAD fault ahead of FULL", x.probe(6, 0, 0, 0, 1), -2);
        Kit.due("24", x.count(1), 24);
    }

    private static void clear() {
        ProbeLoom x = Kit.loomOf(0, 0, Kit.bytes(1, 1, 42));
        Kit.make(x, 0, 0, Kit.bytes(40, 0, 42));
        for (int p = 0; p < 24; p++) {
            x.probe(0, p % 2, 0, 0, 0);
        }
        x.weave(0);
        x.run(1, 0, 0, 0, 10);
        Kit.due("records", x.told(1, 4), 12);
        Kit.due("clear", x.clear(), 24);
        Kit.due("not woven", x.method(0, 6), -1);
        Kit.due("not woven: moved", x.moved(0, 0), -1);
        Kit.due("not woven: unweave", x.unweave(0), 0);
        Kit.due("clear again", x.clear(), 0);
        Kit.due("methods stay", x.count(0), 2);
        Kit.due("the latest run stays", x.told(1, 4), 12);
        Kit.due("its records stay", x.record(1, 11, 0), 22);
        x.run(1, 0, 0, 0, 10);
        Kit.due("no records any more", x.told(1, 4), 0);
        Kit.due("numbers from 0 again", x.probe(7, 0, 0, 5, 0), 0);
        x.run(2, 0, 0, 0, 10);
        Kit.due("a probe that is not woven says nothing", x.told(2, 1), 1);
        Kit.due("the new one is woven alone", x.weave(0), 5);
        Kit.dueWoven("the new one", x, 0, 1, 1, 57, 0, 42);
    }
}
