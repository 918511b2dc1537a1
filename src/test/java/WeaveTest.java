/** Promises 10, 13 and 14: moved, weave, unweave, and each byte of the WOVEN code. */
public final class WeaveTest {
    public static void main(String[] args) {
        everySort();
        orderInAGroup();
        tables();
        sidePads();
        handlerPads();
        growing();
        padsGrow();
        growingInTurn();
        growingOneByOne();
        longest();
        full();
        later();
        wrongCalls();
        Kit.end();
    }

    private static void everySort() {
        // put under a handler: get 1, push 2, add, put 1, get 1, give; caught: give
        ProbeLoom x = Kit.loomOf(1, 1, Kit.bytes(34, 1, 1, 2, 9, 35, 1, 34, 1, 42, 42), new int[] {0, 10, 10, 0});
        x.probe(3, 0, 0, 0, 0);
        x.probe(7, 0, 4, 77, 0);
        x.probe(4, 0, 5, 0, 0);
        x.probe(6, 0, 5, 1, 9);
        x.probe(0, 0, 5, 0, 0);
        x.probe(2, 0, 0, 0, 0);
        x.probe(5, 0, 10, 0, 0);
        Kit.due("weave", x.weave(0), 34);
        Kit.dueWoven("every sort", x, 0, 50, 5, 34, 1, 1, 2, 9, 57, 1, 56, 3, 48, 4, 53, 2, 35, 1, 54, 2, 34, 1,
                51, 0, 42, 51, 0, 42, 55, 6, 20, -5, 52, 0, 58);
        int[][] moved = {{0, 2}, {2, 4}, {4, 6}, {5, 15}, {7, 19}, {9, 23}, {10, 26}};
        for (int[] m : moved) {
            Kit.due("moved " + m[0], x.moved(0, m[0]), m[1]);
        }
        Kit.dueHandler("every sort", x, true, 0, 2, 24, 27, 0);
        Kit.dueHandler("every sort", x, true, 1, 2, 27, 31, 0);
        Kit.due("pads", x.method(0, 9), 2);
        Kit.due("handlers", x.method(0, 7), 2);
        Kit.due("grown", x.method(0, 8), 0);
        Kit.dueBoth("every sort", x, 0, new int[] {8, 0, 50}, new int[] {0, 9, 4},
                5, 8, 1, 2, 6, 9, 0, 9);
    }

    private static void orderInAGroup() {
        ProbeLoom x = Kit.loomOf(0, 0, Kit.bytes(1, 5, 35, 0, 1, 3, 42));
        x.probe(6, 0, 2, 9, 9);
        x.probe(0, 0, 2, 0, 0);
        x.probe(4, 0, 2, 0, 0);
        x.probe(6, 0, 2, 9, 9);
        x.probe(4, 0, 2, 0, 0);
        x.probe(0, 0, 6, 0, 0);
        x.probe(3, 0, 0, 0, 0);
        x.probe(6, 0, 6, 9, 9);
        x.probe(3, 0, 0, 0, 0);
        x.probe(2, 0, 0, 0, 0);
        x.probe(2, 0, 0, 0, 0);
        x.probe(7, 0, 4, 6, 0);
        x.probe(7, 0, 4, 8, 0);
        x.weave(0);
        Kit.dueWoven("order", x, 0, 50, 9, 50, 10, 1, 5, 56, 0, 48, 1, 56, 3, 53, 2, 53, 4, 35, 0, 54, 2, 54, 4,
                1, 3, 57, 11, 57, 12, 48, 5, 56, 7, 51, 6, 51, 8, 42, 52, 6, 52, 8, 58);
        Kit.dueBoth("order", x, 0, new int[] {0, 0, 9}, new int[] {0, 8, 4},
                9, 0, 10, 0, 1, 0, 2, 0, 2, 5, 4, 0, 4, 5, 11, 3, 12, 6, 5, 0, 6, 8, 8, 8);
    }

    private static void tables() {
        // load 0, table 2: else 10, 0: 13, 1: 0
        ProbeLoom x = Kit.loomOf(1, 1, Kit.bytes(3, 0, 33, 2, 0, 8, 0, 11, 255, 254, 1, 7, 42, 1, 9, 42));
        x.probe(0, 0, 2, 0, 0);
        x.probe(0, 0, 0, 0, 0);
        x.probe(0, 0, 13, 0, 0);
        x.weave(0);
        Kit.dueWoven("table", x, 0, 48, 1, 3, 0, 48, 0, 33, 2, 0, 8, 0, 11, 255, 250, 1, 7, 42, 48, 2, 1, 9, 42);
        Kit.due("moved table", x.moved(0, 2), 6);
        Kit.dueBoth("table 0", x, 0, new int[] {0, 0, 9}, new int[] {0, 9, 4}, 1, 0, 0, 0, 2, 0);
        Kit.dueBoth("table 1", x, 0, new int[] {1, 0, 3}, new int[] {2, 0, 3}, 1, 0, 0, 0, 1, 0, 0, 0);
        Kit.dueBoth("table 2", x, 0, new int[] {2, 0, 9}, new int[] {0, 7, 4}, 1, 0, 0, 0);
        Kit.dueBoth("table -1", x, 0, new int[] {-1, 0, 9}, new int[] {0, 7, 4}, 1, 0, 0, 0);
    }

    private static void sidePads() {
        // 0 load 0, 2 if 0 to 7, 4 push 1, 6 give, 7 load 0, 9 load 1, 11 if below (long) to 7, 14 push 2, 16 give
        ProbeLoom x = Kit.loomOf(2, 2, Kit.bytes(3, 0, 21, 5, 1, 1, 42, 3, 0, 3, 1, 93, 255, 252, 1, 2, 42));
        x.probe(1, 0, 11, 0, 0);
        x.probe(1, 0, 2, 0, 0);
        x.probe(0, 0, 7, 0, 0);
        x.probe(1, 0, 2, 0, 0);
        x.weave(0);
        Kit.dueWoven("sides", x, 0, 3, 0, 21, 26, 49, 1, 0, 49, 3, 0, 1, 1, 42, 48, 2, 3, 0, 3, 1, 93, 0, 17,
                49, 0, 0, 1, 2, 42, 49, 1, 1, 49, 3, 1, 20, -21, 49, 0, 1, 20, -26);
        Kit.due("pads", x.method(0, 9), 2);
        Kit.dueBoth("no jump", x, 0, new int[] {5, 0, 9}, new int[] {0, 1, 4}, 1, 0, 3, 0);
        Kit.dueBoth("a jump", x, 0, new int[] {0, 0, 9}, new int[] {0, 2, 7}, 1, 1, 3, 1, 2, 0, 0, 0);
        Kit.dueBoth("jumps", x, 0, new int[] {0, 1, 8}, new int[] {2, 0, 8}, 1, 1, 3, 1, 2, 0, 0, 1, 2, 0, 0, 1, 2, 0);
        // One that leads to what is behind it tells all the same which side it took.
        ProbeLoom y = Kit.loomOf(1, 1, Kit.bytes(3, 0, 25, 2, 1, 1, 42));
        y.probe(1, 0, 2, 0, 0);
        y.weave(0);
        Kit.dueBoth("above", y, 0, new int[] {1, 0, 9}, new int[] {0, 1, 4}, 0, 1);
        Kit.dueBoth("not above", y, 0, new int[] {0, 0, 9}, new int[] {0, 1, 4}, 0, 0);
    }

    private static void handlerPads() {
        // Two handlers with the same target, one with another that has no CAUGHT.
        ProbeLoom x = Kit.loomOf(1, 1, Kit.bytes(3, 0, 41, 42, 43, 1, 4, 42),
                new int[] {0, 3, 3, 5}, new int[] {2, 3, 4, 6}, new int[] {0, 8, 3, 7});
        x.probe(5, 0, 3, 0, 0);
        x.probe(5, 0, 3, 0, 0);
        x.weave(0);
        Kit.dueWoven("pads", x, 0, 3, 0, 41, 42, 43, 1, 4, 42, 55, 0, 55, 1, 20, -9, 55, 0, 55, 1, 20, -15);
        Kit.dueHandler("pads", x, true, 0, 0, 3, 8, 5);
        Kit.dueHandler("pads", x, true, 1, 2, 3, 4, 6);
        Kit.dueHandler("pads", x, true, 2, 0, 8, 14, 7);
        Kit.due("two pads", x.method(0, 9), 2);
        Kit.dueBoth("kind 5", x, 0, new int[] {5, 0, 9}, new int[] {0, 5, 3}, 0, 5, 1, 5);
        Kit.dueBoth("kind 6", x, 0, new int[] {6, 0, 9}, new int[] {0, 4, 5});
        Kit.dueBoth("kind 7", x, 0, new int[] {7, 0, 9}, new int[] {0, 7, 3}, 0, 7, 1, 7);
        Kit.dueBoth("kind 8", x, 0, new int[] {8, 0, 9}, new int[] {1, 8, 2});
    }

    /** jump over so many nops, then push, give. */
    private static ProbeLoom over(int nops) {
        return Kit.loomOf(0, 0, Kit.join(Kit.bytes(20, nops + 2), Kit.times(nops, 0), Kit.bytes(1, 3, 42)));
    }

    private static void growing() {
        ProbeLoom x = over(123);
        x.probe(0, 0, 10, 0, 0);
        Kit.due("127 is reached", x.weave(0), 130);
        Kit.due("none grew", x.method(0, 8), 0);
        Kit.due("short", x.octet(0, true, 0), 20);
        Kit.due("by 127", x.octet(0, true, 1), 127);
        ProbeLoom y = over(124);
        y.probe(0, 0, 10, 0, 0);
        Kit.due("128 is not reached", y.weave(0), 132);
        Kit.due("one grew", y.method(0, 8), 1);
        Kit.due("long", y.octet(0, true, 0), 84);
        Kit.due("by 129, high", y.octet(0, true, 1), 0);
        Kit.due("by 129, low", y.octet(0, true, 2), 129);
        Kit.due("the code itself stays", y.octet(0, false, 0), 20);
        // A probe at the jump itself is ahead of it; one at the target is passed by who comes there.
        ProbeLoom z = over(125);
        z.probe(0, 0, 0, 0, 0);
        z.probe(0, 0, 127, 0, 0);
        z.weave(0);
        Kit.due("not in between", z.method(0, 8), 0);
        Kit.due("stays by 127", z.octet(0, true, 3), 127);
        Kit.dueBoth("not in between", z, 0, new int[] {0, 0, 9}, new int[] {0, 3, 3}, 0, 0, 1, 0);
        backwards(124, 0, 256 - 128);
        backwards(125, 1, 256 - 129);
    }

    /** nops with a PASS at the second, then a choice back to the first. */
    private static void backwards(int nops, int grown, int low) {
        ProbeLoom x = Kit.loomOf(1, 1, Kit.join(Kit.times(nops, 0),
                Kit.bytes(3, 0, 22, -(nops + 2), 1, 3, 42)));
        x.probe(0, 0, 1, 0, 0);
        x.weave(0);
        Kit.due("back over " + nops + ": grown", x.method(0, 8), grown);
        Kit.due("back over " + nops + ": op", x.octet(0, true, nops + 4), 22 + 64 * grown);
        Kit.due("back over " + nops + ": low", x.octet(0, true, nops + 5 + grown), low);
        Kit.dueBoth("back over " + nops, x, 0, new int[] {0, 0, 400}, new int[] {0, 3, nops + 4}, 0, 0);
    }

    private static void padsGrow() {
        // The PAD of a choice is far behind it, and its target far ahead of the PAD: both become long.
        ProbeLoom x = Kit.loomOf(1, 1, Kit.join(Kit.bytes(3, 0, 23, 2), Kit.times(140, 0), Kit.bytes(1, 3, 42)));
        x.probe(1, 0, 2, 0, 0);
        Kit.due("weave", x.weave(0), 157);
        Kit.due("the code's jumps alone count", x.method(0, 8), 1);
        Kit.due("the choice", x.octet(0, true, 2), 87);
        Kit.due("leads to the pad", x.octet(0, true, 4), 149);
        Kit.due("the pad's side", x.octet(0, true, 151), 49);
        Kit.due("the pad's jump", x.octet(0, true, 154), 84);
        Kit.due("leads back", x.octet(0, true, 155), 255);
        Kit.due("leads back, low", x.octet(0, true, 156), 256 - 146);
        Kit.dueBoth("below", x, 0, new int[] {-1, 0, 400}, new int[] {0, 3, 144}, 0, 1);
        Kit.dueBoth("not below", x, 0, new int[] {0, 0, 400}, new int[] {0, 3, 144}, 0, 0);
        ProbeLoom y = Kit.loomOf(1, 1, Kit.join(Kit.bytes(3, 0, 41, 7), Kit.times(140, 0), Kit.bytes(1, 3, 42)),
                new int[] {0, 3, 3, 0});
        y.probe(5, 0, 3, 0, 0);
        Kit.due("weave", y.weave(0), 152);
        Kit.due("a pad's jump is none of the code's", y.method(0, 8), 0);
        Kit.due("the pad", y.handler(0, true, 0, 2), 147);
        Kit.due("its jump", y.octet(0, true, 149), 84);
        Kit.due("leads back", y.octet(0, true, 151), 256 - 146);
        Kit.dueBoth("caught", y, 0, new int[] {55, 0, 400}, new int[] {0, 3, 145}, 0, 55);
    }

    private static void growingInTurn() {
        // The inner jump grows by the PASS, and so the outer one does, which just reached before.
        int[] code = Kit.join(Kit.bytes(20, 127), Kit.times(60, 0), Kit.bytes(20, 126), Kit.times(63, 0),
                Kit.times(61, 0), Kit.bytes(1, 3, 42));
        ProbeLoom x = Kit.loomOf(0, 0, code);
        x.probe(0, 0, 150, 0, 0);
        x.weave(0);
        Kit.due("both grew", x.method(0, 8), 2);
        Kit.due("outer", x.octet(0, true, 0), 84);
        Kit.due("outer by", x.octet(0, true, 2), 129);
        Kit.due("inner", x.octet(0, true, 63), 84);
        Kit.due("inner by", x.octet(0, true, 65), 129);
        Kit.due("all", x.method(0, 6), code.length + 4);
        ProbeLoom y = Kit.loomOf(0, 0, code);
        y.weave(0);
        Kit.due("none grows without probes", y.method(0, 8), 0);
        ProbeLoom z = Kit.loomOf(1, 1, Kit.bytes(3, 0, 85, 0, 3, 1, 3, 42));
        z.weave(0);
        Kit.due("a long one is none that became so", z.method(0, 8), 0);
        Kit.due("a long one stays long", z.octet(0, true, 2), 85);
    }

    private static void longest() {
        // 400 bytes, 8 handlers up to the end, 12 locals: 396 nops, push, give; the target gives the kind.
        int[][] handlers = new int[8][];
        for (int k = 0; k < 8; k++) {
            handlers[k] = new int[] {k, 400, 399, k < 7 ? 50 + k : 0};
        }
        ProbeLoom x = Kit.loomOf(4, 12, Kit.join(Kit.times(396, 0), Kit.bytes(1, 5, 42, 42)), handlers);
        Kit.due("plain", x.weave(0), 400);
        Kit.due("plain: the last", x.moved(0, 399), 399);
        x.probe(5, 0, 399, 0, 0);
        x.probe(3, 0, 0, 0, 0);
        x.probe(6, 0, 398, 1, 56);
        x.probe(0, 0, 399, 0, 0);
        // GROUPS 2 and 2 more at 398, 2 and 2 more at 399; 8 PADS of CAUGHT and a short jump; LEFT, AGAIN.
        Kit.due("weave", x.weave(0), 400 + 8 + 8 * 4 + 3);
        Kit.due("handlers", x.method(0, 7), 9);
        Kit.due("pads", x.method(0, 9), 9);
        Kit.due("the last moved", x.moved(0, 399), 407);
        for (int k = 0; k < 8; k++) {
            Kit.dueHandler("longest", x, true, k, k, 408, 408 + 4 * k, k < 7 ? 50 + k : 0);
        }
        Kit.dueHandler("longest", x, true, 8, 0, 408, 440, 0);
        Kit.dueBoth("longest", x, 0, new int[] {1, 2, 3000}, new int[] {0, 56, 398}, 0, 56, 3, 0, 1, 56);
    }

    /**
     * 136 jumps one behind the other, the last of which does not reach by the PASS; each of the others
     * just reaches until the one behind it is long, so that each round makes one more long.
     */
    private static void growingOneByOne() {
        int jumps = 136;
        int[] code = new int[2 * jumps + 128];
        for (int k = 0; k < jumps; k++) {
            int place = 2 * (jumps - 1 - k);
            code[place] = 20;
            code[place + 1] = k < 42 ? 126 - k : 86;
        }
        code[code.length - 3] = 1;
        code[code.length - 1] = 42;
        ProbeLoom x = Kit.loomOf(0, 0, code);
        Kit.due("the pass", x.probe(0, 0, 2 * jumps, 0, 0), 0);
        int[] want = new int[3 * jumps + 2 + 128];
        for (int k = 0; k < jumps; k++) {
            int at = 3 * (jumps - 1 - k);
            // The first 42 lead behind the PASS, the others to the 43rd jump behind them.
            int distance = k < 42 ? 3 * jumps + 2 + 124 - 3 * k - at : 3 * 43;
            want[at] = 84;
            want[at + 1] = distance >> 8;
            want[at + 2] = distance & 255;
        }
        want[3 * jumps] = 48;
        want[want.length - 3] = 1;
        want[want.length - 1] = 42;
        Kit.due("weave", x.weave(0), want.length);
        Kit.dueWoven("one by one", x, 0, want);
        Kit.due("all became long", x.method(0, 8), jumps);
        Kit.due("without the pass none does", Kit.loomOf(0, 0, code).weave(0), code.length);
        Kit.dueEnd("one by one", x, 0, new int[] {0, 0, 3000}, 0, 0);
    }

    /** 100 times push, give, and nops: a LEAVE adds 2 bytes to each give and 2 to its PAD. */
    private static ProbeLoom gives(int nops, int leaves) {
        ProbeLoom x = Kit.loomOf(0, 0, Kit.join(Kit.times(100, 1, 5, 42), Kit.times(nops, 0)));
        for (int p = 0; p < leaves; p++) {
            x.probe(3, 0, 0, 0, 0);
        }
        return x;
    }

    private static void full() {
        for (int nops = 92; nops <= 94; nops++) {
            ProbeLoom x = gives(nops, 3);
            int size = 300 + nops + 3 * 200 + 3 * 2 + 1;
            Kit.due("weave to " + size, x.weave(0), size > 1000 ? -3 : size);
            Kit.due("there or not: " + size, x.method(0, 6), size > 1000 ? -1 : size);
        }
        ProbeLoom x = gives(92, 2);
        Kit.due("two", x.weave(0), 797);
        for (int p = 2; p < 24; p++) {
            x.probe(3, 0, 0, 0, 0);
        }
        Kit.due("far too many", x.weave(0), -3);
        Kit.due("it stays as it was", x.method(0, 6), 797);
        Kit.due("its handler too", x.handler(0, true, 0, 2), 792);
        Kit.due("its bytes too", x.octet(0, true, 796), 58);
        Kit.dueBoth("it runs as it was", x, 0, new int[] {0, 0, 9}, new int[] {0, 5, 2}, 0, 5, 1, 5);
        // The jump over 20 of the gives becomes long: one byte more than if all stayed short.
        for (int nops = 90; nops <= 91; nops++) {
            ProbeLoom y = Kit.loomOf(0, 0,
                    Kit.join(Kit.bytes(20, 62), Kit.times(100, 1, 5, 42), Kit.times(nops, 0)));
            for (int p = 0; p < 3; p++) {
                y.probe(3, 0, 0, 0, 0);
            }
            Kit.due("grown with " + nops + " nops", y.weave(0), nops == 90 ? 1000 : -3);
        }
    }

    private static void later() {
        ProbeLoom x = Kit.loomOf(0, 0, Kit.bytes(1, 3, 42));
        Kit.due("not woven", x.unweave(0), 0);
        x.probe(0, 0, 0, 0, 0);
        x.weave(0);
        x.probe(7, 0, 0, 9, 0);
        Kit.dueWoven("a later probe", x, 0, 48, 0, 1, 3, 42);
        Kit.dueBoth("a later probe", x, 0, new int[] {0, 0, 9}, new int[] {0, 3, 2}, 0, 0);
        Kit.due("weave anew", x.weave(0), 7);
        Kit.dueBoth("woven anew", x, 0, new int[] {0, 0, 9}, new int[] {0, 9, 2}, 0, 0, 1, 3);
        Kit.due("plain has no probes", x.run(0, 0, 0, 0, 9), 0);
        Kit.due("plain answers", x.told(0, 1), 3);
        Kit.due("plain records", x.told(0, 4), 0);
        Kit.due("unweave", x.unweave(0), 1);
        Kit.due("unweave again", x.unweave(0), 0);
        Kit.due("no octets", x.octet(0, true, 0), -1);
        Kit.due("not moved", x.moved(0, 0), -1);
        Kit.due("probes stay", x.count(1), 2);
        Kit.dueBoth("unwoven", x, 0, new int[] {0, 0, 9}, new int[] {0, 3, 2});
        // Only the woven one of two says something.
        Kit.make(x, 0, 0, Kit.bytes(40, 0, 42));
        x.probe(0, 1, 0, 0, 0);
        x.weave(1);
        Kit.dueBoth("only the caller", x, 1, new int[] {0, 0, 9}, new int[] {0, 3, 4}, 2, 0);
        x.weave(0);
        x.unweave(1);
        Kit.dueBoth("only the callee", x, 1, new int[] {0, 0, 9}, new int[] {0, 9, 4}, 0, 0, 1, 3);
    }

    private static void wrongCalls() {
        ProbeLoom x = Kit.loomOf(0, 0, Kit.bytes(1, 3, 42));
        x.weave(0);
        int[] wild = {-1, 1, 5, 6, Integer.MIN_VALUE, Integer.MAX_VALUE};
        for (int m : wild) {
            Kit.due("weave " + m, x.weave(m), -2);
            Kit.due("unweave " + m, x.unweave(m), -2);
            Kit.due("moved of " + m, x.moved(m, 0), -1);
        }
        int[] places = {-1, 1, 3, 400, Integer.MIN_VALUE, Integer.MAX_VALUE};
        for (int place : places) {
            Kit.due("moved " + place, x.moved(0, place), -1);
        }
        Kit.due("moved 2", x.moved(0, 2), 2);
    }
}
