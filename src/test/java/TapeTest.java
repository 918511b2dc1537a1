/** Promises 1, 2, 3 and 22: a new object, feed, cut, count. */
public final class TapeTest {
    public static void main(String[] args) {
        newObject();
        feedAndCut();
        highestByteFirst();
        counts();
        Kit.end();
    }

    private static void newObject() {
        ProbeLoom x = new ProbeLoom();
        for (int what = 0; what <= 3; what++) {
            Kit.due("new: count " + what, x.count(what), 0);
        }
        Kit.due("new: place", x.place(), -1);
        Kit.due("new: method", x.method(0, 0), -2);
        Kit.due("new: octet", x.octet(0, false, 0), -1);
        Kit.due("new: woven octet", x.octet(0, true, 0), -1);
        Kit.due("new: handler", x.handler(0, false, 0, 0), -1);
        Kit.due("new: type", x.type(0, 0, 0), -1);
        Kit.due("new: moved", x.moved(0, 0), -1);
        Kit.due("new: probe", x.probe(0, 0, 0, 0, 0), -2);
        Kit.due("new: clear", x.clear(), 0);
        Kit.due("new: weave", x.weave(0), -2);
        Kit.due("new: unweave", x.unweave(0), -2);
        Kit.due("new: run", x.run(0, 0, 0, 0, 1), -2);
        Kit.due("new: differ", x.differ(), -1);
        for (int manner = 0; manner <= 2; manner++) {
            for (int what = 0; what <= 8; what++) {
                int want = what == 0 || what == 6 || what == 7 ? -1 : 0;
                Kit.due("new: told " + what, x.told(manner, what), want);
            }
            Kit.due("new: mark", x.mark(manner, 0), 0);
            Kit.due("new: field", x.field(manner, 0), 0);
            Kit.due("new: record", x.record(manner, 0, 0), 0);
            Kit.due("new: records", x.records(manner, 0), 0);
        }
    }

    private static void feedAndCut() {
        ProbeLoom x = new ProbeLoom();
        for (int i = 1; i <= 29; i++) {
            Kit.due("feed", x.feed(0, 0, 0, 0, 0), 20 * i);
        }
        Kit.due("cut none", x.cut(0), 580);
        Kit.due("feed up to 600", x.feed(-1, -1, -1, -1, -1), 600);
        Kit.due("feed beyond", x.feed(0, 0, 0, 0, 0), -3);
        Kit.due("refused feed changes nothing", x.count(2), 600);
        Kit.due("cut one", x.cut(1), 599);
        Kit.due("feed with 599", x.feed(0, 0, 0, 0, 0), -3);
        Kit.due("cut below 0", x.cut(-1), -2);
        Kit.due("cut least", x.cut(Integer.MIN_VALUE), -2);
        Kit.due("cut too many", x.cut(600), -2);
        Kit.due("cut most", x.cut(Integer.MAX_VALUE), -2);
        Kit.due("refused cut changes nothing", x.count(2), 599);
        Kit.due("cut to 580", x.cut(19), 580);
        Kit.due("feed again", x.feed(0, 0, 0, 0, 0), 600);
        Kit.due("cut all", x.cut(600), 0);
        Kit.due("cut of an empty one", x.cut(1), -2);
        Kit.due("cut none of an empty one", x.cut(0), 0);
    }

    private static void highestByteFirst() {
        ProbeLoom x = new ProbeLoom();
        // No arguments, 1 local, 11 bytes: push s32, push s32, give; no handlers.
        x.feed(0x0001000B, 0x02818283, 0x8402FFFE, 0x7D7C2A00, 0x09090909);
        x.cut(4);
        Kit.due("make", x.make(), 0);
        int[] want = {2, 0x81, 0x82, 0x83, 0x84, 2, 0xFF, 0xFE, 0x7D, 0x7C, 42};
        for (int i = 0; i < want.length; i++) {
            Kit.due("octet " + i, x.octet(0, false, i), want[i]);
        }
        // Bytes that were cut do not come back.
        x.feed(-1, -1, -1, -1, -1);
        x.cut(20);
        x.feed(0x00000003, 0x01052A00, 0, 0, 0);
        x.cut(12);
        Kit.due("make behind cut", x.make(), 1);
        Kit.due("octet behind cut", x.octet(1, false, 1), 5);
    }

    private static void counts() {
        ProbeLoom x = Kit.loomOf(0, 0, Kit.bytes(1, 7, 42));
        x.feed(0, 0, 0, 0, 0);
        x.cut(3);
        x.probe(0, 0, 0, 0, 0);
        x.probe(0, 0, 2, 0, 0);
        x.run(0, 0, 0, 0, 5);
        x.run(1, 0, 0, 0, 5);
        x.run(2, 0, 0, 0, 1);
        x.run(3, 0, 0, 0, 5);
        x.run(0, 0, 0, 0, 0);
        Kit.due("count methods", x.count(0), 1);
        Kit.due("count probes", x.count(1), 2);
        Kit.due("count bytes", x.count(2), 17);
        Kit.due("count runs", x.count(3), 3);
        Kit.due("count another", x.count(4), -2);
        Kit.due("count below", x.count(-1), -2);
        x.clear();
        Kit.due("probes behind clear", x.count(1), 0);
        Kit.due("runs behind clear", x.count(3), 3);
        x.make();
        Kit.due("tape behind a refused make", x.count(2), 0);
        Kit.due("methods behind a refused make", x.count(0), 1);
    }
}
