import java.util.ArrayList;
import java.util.Arrays;
import java.util.List;
import java.util.Random;

/** Many objects with METHODS and PROBES by chance, from fixed seeds, compared with the Model in all. */
public final class CompareTest {
    private static final int OBJECTS = 1500;
    private static final int SCATTERED_OBJECTS = 1000;
    private static final int[] SOME = {0, 1, -1, 2, 3, 5, 7, 31, 32, 50, 51, 99, 100, 101, -128, 127,
        Integer.MAX_VALUE, Integer.MIN_VALUE};

    private static Random chance;
    private static int[] endings = new int[3];
    private static int[] faults = new int[5];
    private static long grown;
    private static long recordsMade;
    private static int fullWeaves;
    private static int[] deep = new int[4];

    public static void main(String[] args) {
        for (int seed = 1; seed <= OBJECTS; seed++) {
            chance = new Random(seed);
            oneObject(seed);
        }
        for (int seed = OBJECTS + 1; seed <= OBJECTS + SCATTERED_OBJECTS; seed++) {
            chance = new Random(seed);
            oneScatteredObject(seed);
        }
        System.out.println("endings " + Arrays.toString(endings) + ", faults "
                + Arrays.toString(faults) + ", grown " + grown + ", records " + recordsMade
                + ", full weaves " + fullWeaves + ", frames, rows, records, marks at their most "
                + Arrays.toString(deep));
        for (int i = 0; i < 3; i++) {
            Kit.due("some run ended with " + i, endings[i] > 50);
        }
        for (int i = 1; i <= 4; i++) {
            Kit.due("some make told fault " + i, faults[i] > 50);
        }
        Kit.due("some jumps grew", grown > 100);
        Kit.due("some weaves had no room", fullWeaves > 50);
        for (int i = 0; i < 4; i++) {
            Kit.due("some runs came to the most of " + i, deep[i] > 10);
        }
        Kit.end();
    }

    private static void oneObject(int seed) {
        ProbeLoom loom = new ProbeLoom();
        Model model = new Model();
        int methods = 1 + chance.nextInt(6);
        for (int i = 0; i < methods; i++) {
            int[] tape = new Maker(chance, model).tape();
            for (int wreck = chance.nextInt(4); wreck > 0; wreck--) {
                compareMake(seed, loom, model, wrecked(tape));
            }
            compareMake(seed, loom, model, tape);
        }
        compareWork(seed, loom, model);
    }

    /** Few of these METHODS are taken, so there are many tries. */
    private static void oneScatteredObject(int seed) {
        ProbeLoom loom = new ProbeLoom();
        Model model = new Model();
        for (int tries = 0; tries < 150 && model.methods.size() < 6; tries++) {
            compareMake(seed, loom, model, new Scatter(chance, model).tape());
        }
        compareWork(seed, loom, model);
    }

    private static void compareWork(int seed, ProbeLoom loom, Model model) {
        if (model.methods.isEmpty()) {
            return;
        }
        compareMethods(seed, loom, model);
        for (int round = 0; round < 4; round++) {
            if (chance.nextInt(6) == 0) {
                Kit.due(seed + ": clear", loom.clear(), model.probes.size());
                model.clear();
            }
            someProbes(seed, loom, model);
            if (chance.nextInt(4) == 0) {
                manyLeaves(seed, loom, model);
            }
            for (int m = 0; m < model.methods.size(); m++) {
                if (chance.nextInt(4) != 0) {
                    int want = model.weave(m);
                    Kit.due(seed + ": weave " + m, loom.weave(m), want);
                    fullWeaves += want == -3 ? 1 : 0;
                }
                compareWoven(seed, loom, model.methods.get(m));
            }
            for (int runs = 0; runs < 3; runs++) {
                compareRuns(seed, loom, model);
            }
        }
    }

    private static int[] wrecked(int[] tape) {
        int[] other = tape.clone();
        int way = chance.nextInt(6);
        if (way == 0) {
            return Arrays.copyOf(other, chance.nextInt(other.length + 1));
        }
        if (way == 1 && other.length < 600) {
            return Arrays.copyOf(other, other.length + 1);
        }
        if (way >= 4) {
            return otherOps(other);
        }
        int[] likely = {0, 1, 2, 3, 4, 6, 7, 8, 20, 33, 36, 37, 40, 42, 44, 84, 97, 255};
        for (int many = chance.nextInt(3) + 1; many > 0; many--) {
            other[chance.nextInt(other.length)] =
                    chance.nextBoolean() ? chance.nextInt(256) : likely[chance.nextInt(likely.length)];
        }
        return other;
    }

    /** INSTRUCTIONS become others of their size: the form stays, the types seldom do. */
    private static int[] otherOps(int[] tape) {
        int[] single = {0, 6, 7, 8, 9, 19, 36, 37, 38, 39, 41, 42, 43};
        for (int many = chance.nextInt(2) + 1; many > 0; many--) {
            int at = 4 + chance.nextInt(tape.length - 4);
            for (int i = at; i < tape.length; i++) {
                if (tape[i] >= 6 && tape[i] <= 19 || tape[i] >= 36 && tape[i] <= 39 || tape[i] >= 41 && tape[i] <= 43) {
                    tape[i] = single[chance.nextInt(single.length)];
                    break;
                }
            }
        }
        return tape;
    }

    private static void compareMake(int seed, ProbeLoom loom, Model model, int[] tape) {
        int[] place = new int[1];
        int want = model.make(tape, place);
        Kit.feed(loom, tape);
        Kit.due(seed + ": tape", loom.count(2), tape.length);
        int got = loom.make();
        if (want <= -11) {
            faults[-10 - want]++;
        }
        Kit.due(seed + ": make", got, want);
        Kit.due(seed + ": place of fault " + want, loom.place(), place[0]);
        Kit.due(seed + ": tape behind make", loom.count(2), 0);
    }

    private static void compareMethods(int seed, ProbeLoom loom, Model model) {
        Kit.due(seed + ": methods", loom.count(0), model.methods.size());
        for (Model.Meth m : model.methods) {
            String who = seed + ": method " + m.number;
            int height = 0;
            for (int place = -1; place <= m.length; place++) {
                Model.Ins ins = m.code.get(place);
                boolean come = ins != null && ins.stack != null;
                for (int what = -1; what <= 23; what++) {
                    Kit.due(who + " type " + place + " " + what, loom.type(m.number, place, what),
                            come ? typeOf(ins, what) : -1);
                }
                height = come ? Math.max(height, ins.stack.length()) : height;
                Kit.due(who + " octet " + place, loom.octet(m.number, false, place),
                        place >= 0 && place < m.length ? m.bytes[place] : -1);
            }
            int[] tells = {m.arguments, m.locals, m.length, m.handlers.size(), m.code.size(), height};
            for (int what = 0; what < tells.length; what++) {
                Kit.due(who + " tells " + what, loom.method(m.number, what), tells[what]);
            }
            compareHandlers(who, loom, m.number, false, m.handlers);
        }
    }

    private static int typeOf(Model.Ins ins, int what) {
        if (what == 0) {
            return ins.stack.length();
        }
        if (what >= 1 && what <= ins.locals.length) {
            return "-IR".indexOf(ins.locals[what - 1]);
        }
        return what >= 13 && what - 13 < ins.stack.length() ? "-IR".indexOf(ins.stack.charAt(what - 13)) : -1;
    }

    private static void compareHandlers(String who, ProbeLoom loom, int m, boolean woven, List<int[]> want) {
        for (int k = -1; k <= want.size(); k++) {
            for (int what = -1; what <= 4; what++) {
                boolean there = k >= 0 && k < want.size() && what >= 0 && what < 4;
                Kit.due(who + " handler " + k + " " + what + " " + woven, loom.handler(m, woven, k, what),
                        there ? want.get(k)[what] : -1);
            }
        }
    }

    private static void someProbes(int seed, ProbeLoom loom, Model model) {
        for (int many = chance.nextInt(9); many > 0; many--) {
            Model.Meth m = model.methods.get(chance.nextInt(model.methods.size()));
            int sort = chance.nextInt(8);
            List<Integer> places = new ArrayList<>(m.code.keySet());
            int place = sort == 2 || sort == 3 ? 0 : places.get(chance.nextInt(places.size()));
            int x = sort == 6 ? chance.nextInt(5) + (chance.nextInt(9) == 0 ? 997 : 0) : some();
            int y = chance.nextInt(4) == 0 ? chance.nextInt(102) : 1 + chance.nextInt(9);
            for (int tries = 0; tries < 40; tries++) {
                int want = model.probe(sort, m.number, place, x, y);
                Kit.due(seed + ": probe", loom.probe(sort, m.number, place, x, y), want);
                if (want != -2) {
                    break;
                }
                place = places.get(chance.nextInt(places.size()));
            }
        }
        Kit.due(seed + ": probes", loom.count(1), model.probes.size());
    }

    /** Where a METHOD has many gives these are more than a WOVEN code has room for. */
    private static void manyLeaves(int seed, ProbeLoom loom, Model model) {
        int m = chance.nextInt(model.methods.size());
        for (int many = chance.nextInt(14); many > 0; many--) {
            Kit.due(seed + ": leave", loom.probe(3, m, 0, 0, 0), model.probe(3, m, 0, 0, 0));
        }
    }

    private static void compareWoven(int seed, ProbeLoom loom, Model.Meth m) {
        String who = seed + ": woven " + m.number;
        Model.Weft w = m.weft;
        if (w != null && chance.nextInt(9) == 0) {
            Kit.due(who + " unweave", loom.unweave(m.number), 1);
            Kit.due(who + " unweave again", loom.unweave(m.number), 0);
            m.weft = null;
            w = null;
        }
        int[] tells = w == null ? new int[] {-1, -1, -1, -1}
                : new int[] {w.bytes.length, w.handlers.size(), w.grown, w.pads};
        for (int what = 6; what <= 9; what++) {
            Kit.due(who + " tells " + what, loom.method(m.number, what), tells[what - 6]);
        }
        int length = w == null ? 0 : w.bytes.length;
        for (int i = -1; i <= length; i++) {
            Kit.due(who + " octet " + i, loom.octet(m.number, true, i), i >= 0 && i < length ? w.bytes[i] : -1);
        }
        for (int place = -1; place <= m.length; place++) {
            Integer moved = w == null ? null : w.moved.get(place);
            Kit.due(who + " moved " + place, loom.moved(m.number, place), moved == null ? -1 : moved);
        }
        compareHandlers(who, loom, m.number, true, w == null ? List.of() : w.handlers);
        grown += w == null ? 0 : w.grown;
    }

    private static void compareRuns(int seed, ProbeLoom loom, Model model) {
        int m = chance.nextInt(model.methods.size());
        int a = some();
        int b = some();
        int limit = chance.nextBoolean() ? 1 + chance.nextInt(60) : 1 + chance.nextInt(3000);
        Model.Told plain = model.run(false, m, a, b, limit);
        Model.Told watched = model.run(true, m, a, b, limit);
        endings[plain.ending]++;
        recordsMade += watched.recordCount;
        deep[0] += watched.frames == 12 ? 1 : 0;
        deep[1] += watched.rows == 30 ? 1 : 0;
        deep[2] += watched.recordCount > 400 ? 1 : 0;
        deep[3] += watched.marks.size() == 60 ? 1 : 0;
        for (int manner = 0; manner <= 2; manner++) {
            Model.Told want = manner == 0 ? plain : watched;
            String who = seed + ": run of " + m + " in manner " + manner;
            Kit.due(who, loom.run(manner, m, a, b, limit), want.ending);
            int[] tells = {want.ending, want.answer, want.steps, want.marks.size(), want.recordCount, want.rows,
                want.place, want.method, want.frames};
            for (int what = 0; what < tells.length; what++) {
                Kit.due(who + " told " + what, loom.told(manner, what), tells[what]);
            }
            for (int i = -1; i <= want.marks.size(); i++) {
                Kit.due(who + " mark " + i, loom.mark(manner, i),
                        i >= 0 && i < want.marks.size() ? want.marks.get(i) : 0);
            }
            for (int f = -1; f <= 8; f++) {
                Kit.due(who + " field " + f, loom.field(manner, f), f >= 0 && f < 8 ? want.fields[f] : 0);
            }
            compareRecords(who, loom, manner, want);
        }
        Kit.due(seed + ": differ", loom.differ(), -1);
    }

    private static void compareRecords(String who, ProbeLoom loom, int manner, Model.Told want) {
        int[] of = new int[26];
        for (int i = -1; i <= want.records.size(); i++) {
            boolean there = i >= 0 && i < want.records.size();
            for (int what = -1; what <= 2; what++) {
                Kit.due(who + " record " + i + " " + what, loom.record(manner, i, what),
                        there && what >= 0 && what <= 1 ? want.records.get(i)[what] : 0);
            }
            if (there) {
                of[want.records.get(i)[0] + 1]++;
            }
        }
        for (int p = -1; p <= 24; p++) {
            Kit.due(who + " records of " + p, loom.records(manner, p), of[p + 1]);
        }
    }

    private static int some() {
        return chance.nextInt(3) == 0 ? SOME[chance.nextInt(SOME.length)] : chance.nextInt(12) - 2;
    }
}
