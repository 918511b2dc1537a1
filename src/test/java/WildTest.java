import java.util.Random;

/** Calls by chance with wild arguments in all states: none throws, and what must hold holds. */
public final class WildTest {
    private static final int OBJECTS = 400;
    private static final int CALLS = 512;
    private static final int[] WILD = {Integer.MIN_VALUE, Integer.MIN_VALUE + 1, -65536, -129, -128, -11, -4, -3, -2,
        -1, 0, 1, 2, 3, 4, 5, 6, 7, 8, 9, 10, 12, 13, 22, 23, 24, 25, 59, 60, 127, 128, 255, 256, 399, 400, 401, 600,
        999, 1000, 1001, 2999, 3000, 3001, 65535, Integer.MAX_VALUE - 1, Integer.MAX_VALUE};

    private static Random chance;
    private static ProbeLoom loom;
    private static Model model;

    public static void main(String[] args) {
        for (int seed = 1; seed <= OBJECTS; seed++) {
            chance = new Random(7000 + seed);
            loom = new ProbeLoom();
            model = new Model();
            for (int call = 0; call < CALLS; call++) {
                oneCall(chance.nextInt(26));
            }
            Kit.due("the tape's length", loom.count(2) >= 0 && loom.count(2) <= 600);
            Kit.due("methods", loom.count(0) >= 0 && loom.count(0) <= 6);
            Kit.due("probes", loom.count(1) >= 0 && loom.count(1) <= 24);
        }
        Kit.end();
    }

    private static int wild() {
        switch (chance.nextInt(4)) {
            case 0:
                return chance.nextInt();
            case 1:
                return WILD[chance.nextInt(WILD.length)];
            default:
                return chance.nextInt(30) - 1;
        }
    }

    private static int near() {
        return chance.nextInt(9) == 0 ? wild() : chance.nextInt(4);
    }

    private static void oneCall(int which) {
        switch (which) {
            case 0:
                loom.feed(wild(), wild(), wild(), wild(), wild());
                break;
            case 1:
                loom.cut(wild());
                break;
            case 2:
                loom.make();
                break;
            case 3:
                Kit.due("place", loom.place() >= -1);
                break;
            case 4:
                loom.method(near(), wild());
                break;
            case 5:
                loom.octet(near(), chance.nextBoolean(), wild());
                break;
            case 6:
                loom.handler(near(), chance.nextBoolean(), wild(), wild());
                break;
            case 7:
                loom.type(near(), wild(), wild());
                break;
            case 8:
                loom.moved(near(), wild());
                break;
            case 9:
            case 10:
                loom.probe(near() + near(), near(), near() == 0 ? 0 : wild(), near(), near());
                break;
            case 11:
                loom.clear();
                break;
            case 12:
            case 13:
                loom.weave(near());
                break;
            case 14:
                loom.unweave(near());
                break;
            case 15:
                loom.run(near(), near(), wild(), wild(), wild());
                break;
            default:
                otherCall(which);
                break;
        }
    }

    private static void otherCall(int which) {
        switch (which) {
            case 16:
                loom.told(near(), wild());
                break;
            case 17:
                loom.mark(near(), wild());
                break;
            case 18:
                loom.field(near(), wild());
                break;
            case 19:
                loom.record(near(), wild(), near());
                break;
            case 20:
                loom.records(near(), wild());
                break;
            case 21:
                loom.differ();
                break;
            case 22:
                loom.count(wild());
                break;
            case 23:
                wholeMethod();
                break;
            default:
                bothManners();
                break;
        }
    }

    private static void wholeMethod() {
        int[] tape = new Maker(chance, model).tape();
        loom.cut(loom.count(2));
        Kit.feed(loom, tape);
        int[] place = new int[1];
        model.make(tape, place);
        loom.make();
    }

    private static void bothManners() {
        int m = near();
        int a = wild();
        int b = wild();
        int limit = 1 + chance.nextInt(3000);
        int woven = loom.run(1, m, a, b, limit);
        Kit.due("woven and watched", loom.run(2, m, a, b, limit), woven);
        if (woven >= 0) {
            Kit.due("differ", loom.differ(), -1);
            for (int what = 0; what <= 8; what++) {
                Kit.due("told " + what, loom.told(2, what), loom.told(1, what));
            }
        }
    }
}
