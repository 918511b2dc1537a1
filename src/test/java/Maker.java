import java.util.ArrayList;
import java.util.List;
import java.util.Random;

/**
 * Tells a METHOD by chance that is mostly well: statements that begin and end with an empty STACK,
 * jumps between their beginnings, and statements of their own for what HANDLERS catch.
 */
final class Maker {
    private final Random chance;
    private final Model model;
    private final List<int[]> fixes = new ArrayList<>();
    private final List<Integer> code = new ArrayList<>();
    private final List<Integer> starts = new ArrayList<>();
    private final List<Integer> catchers = new ArrayList<>();
    private int arguments;
    private int ints;
    private int rowLocal;

    Maker(Random chance, Model model) {
        this.chance = chance;
        this.model = model;
    }

    int[] tape() {
        arguments = chance.nextInt(5);
        ints = Math.max(1, arguments + chance.nextInt(4));
        rowLocal = ints;
        for (int n = arguments; n < ints; n++) {
            emit(1, chance.nextInt(256), 4, n);
        }
        emit(1, chance.nextInt(8), 36, 4, rowLocal);
        boolean manyGives = chance.nextInt(8) == 0;
        int statements = manyGives || chance.nextInt(5) == 0 ? 80 : 2 + chance.nextInt(14);
        for (int i = 0; i < statements && code.size() < 330; i++) {
            if (manyGives && chance.nextInt(3) != 0) {
                starts.add(code.size());
                load();
                emit(42);
            } else if (chance.nextInt(7) == 0) {
                endAndCatch();
            } else {
                starts.add(code.size());
                statement();
            }
        }
        starts.add(code.size());
        load();
        emit(42);
        fix();
        int[] bytes = code.stream().mapToInt(Integer::intValue).toArray();
        return Kit.tell(arguments, rowLocal + 1 + chance.nextInt(2), bytes, handlers());
    }

    private void emit(int... bytes) {
        for (int b : bytes) {
            code.add(b & 255);
        }
    }

    private void load() {
        switch (chance.nextInt(5)) {
            case 0:
                emit(1, chance.nextInt(20) - 4);
                break;
            case 1:
                emit(34, chance.nextInt(8));
                break;
            default:
                emit(3, chance.nextInt(ints));
                break;
        }
    }

    private void keep() {
        if (chance.nextInt(4) == 0) {
            emit(35, chance.nextInt(8));
        } else {
            emit(4, chance.nextInt(ints));
        }
    }

    /** A jump of this short OP to some statement, told later. */
    private void jump(int op) {
        boolean isLong = chance.nextInt(4) == 0;
        fixes.add(new int[] {code.size(), code.size() + 1, isLong ? 2 : 1, chance.nextInt(1000)});
        emit(isLong ? op + 64 : op, 0);
        if (isLong) {
            emit(0);
        }
    }

    private void endAndCatch() {
        starts.add(code.size());
        if (chance.nextInt(3) == 0) {
            load();
            emit(chance.nextInt(2) == 0 ? 42 : 41);
        } else {
            jump(20);
        }
        catchers.add(code.size());
        if (chance.nextInt(3) == 0) {
            emit(6, 43);
        }
        keep();
    }

    private void statement() {
        switch (chance.nextInt(14)) {
            case 0:
                load();
                load();
                emit(9 + chance.nextInt(10));
                keep();
                break;
            case 1:
                load();
                emit(19);
                keep();
                break;
            case 2:
            case 3:
                load();
                jump(21 + chance.nextInt(6));
                break;
            case 4:
                load();
                load();
                jump(27 + chance.nextInt(6));
                break;
            case 5:
                table();
                break;
            case 6:
                emit(5, chance.nextInt(ints), chance.nextInt(7) - 3);
                break;
            case 7:
                load();
                emit(43);
                break;
            case 8:
                emit(3, rowLocal);
                load();
                load();
                emit(39);
                break;
            case 9:
                emit(3, rowLocal);
                load();
                emit(38);
                keep();
                break;
            case 10:
                row();
                break;
            case 11:
                call();
                break;
            case 12:
                mixed();
                break;
            default:
                load();
                keep();
                break;
        }
    }

    private void table() {
        load();
        int n = 1 + chance.nextInt(4);
        int at = code.size();
        emit(33, n);
        for (int i = 0; i <= n; i++) {
            fixes.add(new int[] {at, code.size(), 2, chance.nextInt(1000)});
            emit(0, 0);
        }
    }

    private void row() {
        if (chance.nextBoolean()) {
            emit(1, chance.nextInt(5) == 0 ? 60 : chance.nextInt(9));
            emit(36, 4, rowLocal);
        } else {
            emit(3, rowLocal, 37);
            keep();
        }
    }

    private void call() {
        int m = chance.nextInt(model.methods.size() + 1);
        int many = m == model.methods.size() ? arguments : model.methods.get(m).arguments;
        for (int i = 0; i < many; i++) {
            load();
        }
        emit(40, m);
        keep();
    }

    private void mixed() {
        load();
        emit(3, rowLocal, 8, 6, 43, 7);
        emit(7, 0);
        emit(Kit.word(chance.nextInt()));
        emit(6, 10, 4, 0);
    }

    private void fix() {
        for (int[] f : fixes) {
            int target = starts.get(f[3] % starts.size());
            if (f[2] == 1 && Math.abs(target - f[0]) > 126) {
                // The nearest statement is sure to be reached by a short jump.
                for (int start : starts) {
                    target = Math.abs(start - f[0]) < Math.abs(target - f[0]) ? start : target;
                }
                // Prefer one that is far, so that weaving makes it grow.
                for (int start : starts) {
                    if (start - f[0] <= 127 && start - f[0] >= -128 && chance.nextInt(3) == 0) {
                        target = start;
                    }
                }
            }
            int distance = target - f[0];
            if (f[2] == 2) {
                code.set(f[1], distance >> 8 & 255);
                code.set(f[1] + 1, distance & 255);
            } else {
                code.set(f[1], distance & 255);
            }
        }
    }

    private int[][] handlers() {
        int many = catchers.isEmpty() ? 0 : chance.nextInt(Math.min(9, 2 + 2 * catchers.size()));
        int[][] all = new int[many][];
        for (int k = 0; k < many; k++) {
            int first = chance.nextInt(starts.size());
            int last = first + 1 + chance.nextInt(starts.size() - first);
            int to = last >= starts.size() ? code.size() : starts.get(last);
            int[] kinds = {0, 0, 0, 101, 102, 105, 1 + chance.nextInt(9), 100};
            all[k] = new int[] {starts.get(first), to, catchers.get(chance.nextInt(catchers.size())),
                kinds[chance.nextInt(kinds.length)]};
        }
        return all;
    }
}
