import java.util.ArrayList;
import java.util.List;
import java.util.Random;

/**
 * Tells a short METHOD of INSTRUCTIONS by chance: its form, jumps and handlers are well, its types
 * seldom are, and ways join with any STACK.
 */
final class Scatter {
    private static final int[] KINDS = {0, 0, 101, 102, 103, 105, 1, 100};

    private final Random chance;
    private final int methods;
    private final List<int[]> code = new ArrayList<>();
    private int arguments;
    private int locals;
    private int[] places;

    Scatter(Random chance, Model model) {
        this.chance = chance;
        methods = model.methods.size();
    }

    int[] tape() {
        arguments = chance.nextInt(5);
        locals = arguments + chance.nextInt(3);
        boolean jumps = chance.nextInt(3) != 0;
        int many = 2 + chance.nextInt(16);
        for (int i = 1; i < many; i++) {
            code.add(instruction(likelyOp(jumps)));
        }
        code.add(instruction(chance.nextInt(4) == 0 ? 20 : 42));
        places = new int[many + 1];
        for (int i = 0; i < many; i++) {
            places[i + 1] = places[i] + code.get(i).length;
        }
        for (int i = 0; i < many; i++) {
            lead(code.get(i), places[i]);
        }
        return Kit.tell(arguments, locals, Kit.join(code.toArray(new int[0][])), handlers());
    }

    private int likelyOp(boolean jumps) {
        int way = chance.nextInt(24);
        if (way < 6) {
            return 1;
        }
        if (way < 11 && locals > 0) {
            return way < 9 ? 3 : 4;
        }
        if (way == 11 && arguments > 0) {
            return 5;
        }
        if (way < 16 && jumps) {
            return way == 12 ? 33 : way == 13 ? 84 + chance.nextInt(13) : 20 + chance.nextInt(13);
        }
        if (way < 20) {
            return 34 + chance.nextInt(10);
        }
        return 6 + chance.nextInt(14);
    }

    private int[] instruction(int op) {
        switch (op) {
            case 1:
                return Kit.bytes(op, chance.nextInt(3) == 0 ? chance.nextInt(256) : chance.nextInt(5));
            case 3:
            case 4:
                return Kit.bytes(op, chance.nextInt(locals));
            case 5:
                return Kit.bytes(op, chance.nextInt(arguments), chance.nextInt(256));
            case 33:
                int n = 1 + chance.nextInt(3);
                int[] table = new int[4 + 2 * n];
                table[0] = op;
                table[1] = n;
                return table;
            case 34:
            case 35:
                return Kit.bytes(op, chance.nextInt(8));
            case 40:
                return Kit.bytes(op, chance.nextInt(methods + 1));
            default:
                if (op >= 84) {
                    return Kit.bytes(op, 0, 0);
                }
                return op >= 20 && op <= 32 ? Kit.bytes(op, 0) : Kit.bytes(op);
        }
    }

    /** Lets a jump lead to beginnings of INSTRUCTIONS. */
    private void lead(int[] bytes, int place) {
        if (bytes[0] >= 20 && bytes[0] <= 32) {
            bytes[1] = somePlace() - place & 255;
        } else if (bytes[0] >= 84 || bytes[0] == 33) {
            for (int i = bytes[0] == 33 ? 2 : 1; i < bytes.length; i += 2) {
                int distance = somePlace() - place;
                bytes[i] = distance >> 8 & 255;
                bytes[i + 1] = distance & 255;
            }
        }
    }

    private int somePlace() {
        return places[chance.nextInt(places.length - 1)];
    }

    private int[][] handlers() {
        int[][] all = new int[chance.nextInt(3) == 0 ? chance.nextInt(4) : 0][];
        for (int k = 0; k < all.length; k++) {
            int first = chance.nextInt(places.length - 1);
            int last = first + 1 + chance.nextInt(places.length - 1 - first);
            all[k] = new int[] {places[first], places[last], somePlace(), KINDS[chance.nextInt(KINDS.length)]};
        }
        return all;
    }
}
