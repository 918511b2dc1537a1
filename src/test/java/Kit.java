import java.util.ArrayList;
import java.util.List;

/** What the tests share: counting wrong answers, and telling METHODS as bytes. */
final class Kit {
    static final int[][] NO_HANDLERS = {};
    private static int wrong = 0;
    private static int asked = 0;
    private static String about = "";

    private Kit() {
    }

    static void due(String what, long got, long want) {
        asked++;
        if (got != want) {
            wrong++;
            if (wrong <= 50) {
                System.out.println((about.isEmpty() ? "" : "[" + about + "] ") + what
                        + " answered " + got + ", due is " + want);
            }
        }
    }

    static void due(String what, boolean holds) {
        due(what, holds ? 1 : 0, 1);
    }

    /** What the next answers are about: told ahead of each that is wrong. */
    static void about(String words) {
        about = words;
    }

    static int asked() {
        return asked;
    }

    static void end() {
        System.out.println(asked + " answers, " + wrong + " not as due");
        if (wrong != 0 || asked == 0) {
            System.exit(1);
        }
    }

    /** Brings just these bytes on an empty TAPE. */
    static void feed(ProbeLoom loom, int... bytes) {
        int words = (bytes.length + 19) / 20 * 5;
        int[] ints = new int[words];
        for (int i = 0; i < bytes.length; i++) {
            ints[i / 4] |= (bytes[i] & 255) << (24 - 8 * (i % 4));
        }
        for (int i = 0; i < words; i += 5) {
            loom.feed(ints[i], ints[i + 1], ints[i + 2], ints[i + 3], ints[i + 4]);
        }
        loom.cut(words * 4 - bytes.length);
    }

    /** The bytes of a METHOD; each HANDLER is FROM, TO, TARGET, KIND. */
    static int[] tell(int arguments, int locals, int[] code, int[][] handlers) {
        List<Integer> all = new ArrayList<>();
        all.add(arguments);
        all.add(locals);
        all.add(code.length >> 8);
        all.add(code.length & 255);
        for (int b : code) {
            all.add(b & 255);
        }
        all.add(handlers.length);
        for (int[] h : handlers) {
            for (int i = 0; i < 3; i++) {
                all.add(h[i] >> 8 & 255);
                all.add(h[i] & 255);
            }
            all.add(h[3]);
        }
        return all.stream().mapToInt(Integer::intValue).toArray();
    }

    static int make(ProbeLoom loom, int arguments, int locals, int[] code, int[]... handlers) {
        feed(loom, tell(arguments, locals, code, handlers));
        return loom.make();
    }

    /** A new object with one METHOD. */
    static ProbeLoom loomOf(int arguments, int locals, int[] code, int[]... handlers) {
        ProbeLoom loom = new ProbeLoom();
        due("make of the test's own method", make(loom, arguments, locals, code, handlers), 0);
        return loom;
    }

    /** What make() of a new object answers to this TAPE, and where it tells a FAULT. */
    static void dueMade(String what, int answer, int place, int... tape) {
        ProbeLoom loom = new ProbeLoom();
        feed(loom, tape);
        due(what + ": make", loom.make(), answer);
        due(what + ": place", loom.place(), place);
    }

    /** Runs METHOD m in all MANNERS, to the same ending and answer. */
    static void dueEnd(String what, ProbeLoom loom, int m, int[] abLimit, int ending, int answer) {
        for (int manner = 0; manner <= 2; manner++) {
            due(what + ": run in manner " + manner, loom.run(manner, m, abLimit[0], abLimit[1], abLimit[2]), ending);
            due(what + ": answer in manner " + manner, loom.told(manner, 1), answer);
        }
    }

    /** a, b and LIMIT of a RUN. */
    static int[] ab(int a, int b, int limit) {
        return new int[] {a, b, limit};
    }

    /** What a RUN was, its answer or KIND, its STEPS. */
    static int[] ends(int ending, int answer, int steps) {
        return new int[] {ending, answer, steps};
    }

    static int[] bytes(int... all) {
        return all;
    }

    static int[] join(int[]... parts) {
        int length = 0;
        for (int[] part : parts) {
            length += part.length;
        }
        int[] all = new int[length];
        int at = 0;
        for (int[] part : parts) {
            System.arraycopy(part, 0, all, at, part.length);
            at += part.length;
        }
        return all;
    }

    static int[] times(int many, int... part) {
        int[][] parts = new int[many][];
        for (int i = 0; i < many; i++) {
            parts[i] = part;
        }
        return join(parts);
    }

    /** push s32 */
    static int[] word(int value) {
        return bytes(2, value >>> 24, value >>> 16 & 255, value >>> 8 & 255, value & 255);
    }

    static void dueWoven(String what, ProbeLoom loom, int m, int... want) {
        due(what + ": bytes", loom.method(m, 6), want.length);
        for (int i = 0; i < want.length; i++) {
            due(what + ": octet " + i, loom.octet(m, true, i), want[i] & 255);
        }
        due(what + ": behind the last", loom.octet(m, true, want.length), ProbeLoom.NONE);
    }

    static void dueHandler(String what, ProbeLoom loom, boolean woven, int k, int... want) {
        for (int i = 0; i < 4; i++) {
            due(what + ": handler " + k + " part " + i, loom.handler(0, woven, k, i), want[i]);
        }
    }

    /** RECORDS in pairs: PROBE, INT. */
    static void dueRecords(String what, ProbeLoom loom, int manner, int... want) {
        due(what + ": records in manner " + manner, loom.told(manner, 4), want.length / 2);
        for (int i = 0; i < want.length / 2; i++) {
            due(what + ": probe of record " + i + " in manner " + manner, loom.record(manner, i, 0), want[2 * i]);
            due(what + ": int of record " + i + " in manner " + manner, loom.record(manner, i, 1), want[2 * i + 1]);
        }
    }

    /** Runs METHOD m woven and watched, to the same ending, answer, STEPS and RECORDS. */
    static void dueBoth(String what, ProbeLoom loom, int m, int[] abLimit, int[] endAnswerSteps, int... records) {
        for (int manner = 1; manner <= 2; manner++) {
            String where = what + ", manner " + manner;
            due(where + ": run", loom.run(manner, m, abLimit[0], abLimit[1], abLimit[2]), endAnswerSteps[0]);
            due(where + ": told 0", loom.told(manner, 0), endAnswerSteps[0]);
            due(where + ": answer", loom.told(manner, 1), endAnswerSteps[1]);
            due(where + ": steps", loom.told(manner, 2), endAnswerSteps[2]);
            dueRecords(what, loom, manner, records);
        }
        due(what + ": differ", loom.differ(), ProbeLoom.NONE);
    }
}
