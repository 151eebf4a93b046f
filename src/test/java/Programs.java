import java.util.ArrayList;
import java.util.List;
import java.util.Random;

/** Texts of programs by chance, the same ones for the same seed. */
final class Programs {
    private static final String[] PRIMITIVES = {"add", "sub", "mul", "quo", "less", "same", "if",
        "cons", "nil", "head", "tail", "empty", "seq"};
    private static final int[] NEEDS = {2, 2, 2, 2, 2, 2, 3, 2, 0, 1, 1, 1, 2};

    private final Random chance;
    private final String[] functions = {"f", "g", "h"};
    private final int[] parameters = {1, 2, 0};

    Programs(long seed) {
        chance = new Random(seed);
    }

    String text() {
        StringBuilder text = new StringBuilder("main=").append(expr(4, List.of())).append(';');
        for (int d = 0; d < functions.length; d++) {
            List<String> names = new ArrayList<>();
            text.append(functions[d]);
            for (int p = 0; p < parameters[d]; p++) {
                names.add("p" + p);
                text.append(" p").append(p);
            }
            text.append('=').append(expr(2, names)).append(';');
        }
        return text.length() <= 800 ? text.toString() : text();
    }

    private String expr(int depth, List<String> names) {
        int kind = depth == 0 ? chance.nextInt(3) : chance.nextInt(9);
        if (kind == 0 && !names.isEmpty()) {
            return names.get(chance.nextInt(names.size()));
        }
        if (kind < 2) {
            return String.valueOf(chance.nextInt(4));
        }
        if (kind == 2) {
            return PRIMITIVES[chance.nextInt(13)];
        }
        if (kind == 3) {
            List<String> inner = new ArrayList<>(names);
            inner.add("x" + depth);
            inner.add("y" + depth);
            return "(let x" + depth + "=" + expr(depth - 1, inner) + ";y" + depth + "="
                + expr(depth - 1, inner) + ";in " + expr(depth - 1, inner) + ")";
        }
        boolean function = kind < 6;
        int which = chance.nextInt(function ? 3 : 13);
        StringBuilder text = new StringBuilder("(").append(function ? functions[which] : PRIMITIVES[which]);
        int things = (function ? parameters : NEEDS)[which] + (chance.nextInt(12) == 0 ? 1 : 0);
        for (int k = 0; k < things; k++) {
            text.append(' ').append(expr(depth - 1, names));
        }
        return text.append(')').toString();
    }
}
