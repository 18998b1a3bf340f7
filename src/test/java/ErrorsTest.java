/**
 * Errors: the first one that applies is returned, it is counted, and nothing else changes. Every argument of every
 * method is taken out of its range, alone and together with others, and in states in which NO or FULL apply, too.
 */
public final class ErrorsTest {
    private static final Check CHECK = new Check();

    private static void fails(String before, int code, String name, int... a) {
        Refusals.refused(CHECK, before, Calls.told(name, a), code);
    }

    /** The first and last allowed value of each argument for one state; the others are BAD. */
    private static void ranges(String before, String name, int[]... ranges) {
        int[] good = new int[ranges.length];
        for (int i = 0; i < good.length; i++) {
            good[i] = ranges[i][0];
        }
        for (int i = 0; i < good.length; i++) {
            int[] wrong = {ranges[i][0] - 1, Integer.MIN_VALUE, ranges[i][1] + 1, Integer.MAX_VALUE};
            for (int value : wrong) {
                boolean inside = value >= ranges[i][0] && value <= ranges[i][1];
                int[] a = good.clone();
                a[i] = value;
                if (!inside) {
                    fails(before, SpunModules.BAD, name, a);
                    a[(i + 1) % a.length] = -7;
                    fails(before, SpunModules.BAD, name, a);
                }
            }
        }
    }

    private static int[] to(int first, int last) {
        return new int[] {first, last};
    }

    /** A state for each field, with a text, a word, changes to undo and errors counted before. */
    private static final String TWO = "type(98);type(43);type(97);tells();sizes(0, 3);draws(0, 5);sizes(1, 4);draws(1, 6);"
        + "told(9);parts(0, 0, 0)";
    private static final String THREE = "begins(3);type(50);tells();type(43);sizes(0, 3);draws(0, 5);sizes(1, 4);"
        + "draws(1, 6);sizes(2, 2);sets(2, 0, 0, 1, 2);sizes(3, 5);sets(3, 1, 4, 0, 1);sizes(3, 1)";

    private static void outside(String state, int p) {
        int[] k = to(0, 3);
        int[] place = to(0, 2);
        int[] vector = to(0, p * p * p - 1);
        int[] any = to(0, Integer.MAX_VALUE);
        ranges(state, "begins", to(2, 3));
        ranges(state, "sizes", k, to(1, p == 2 ? 6 : 5));
        ranges(state, "sets", to(0, 3), to(0, 1), place, place, to(0, p - 1));
        ranges(state, "draws", k, to(0, 999999));
        fails(state, SpunModules.BAD, "turns", 0, 1, 1, 0);
        fails(state, SpunModules.BAD, "turns", 0, 2, 2, 1);
        for (int[] a : new int[][] {{-1, 0, 1, 1}, {4, 0, 1, 1}, {0, -1, 1, 1}, {0, 3, 1, 1}, {0, 0, 3, 1}, {0, 0, -1, 1},
            {0, 0, 1, -1}, {0, 0, 1, p}, {0, 3, 3, 1}}) {
            fails(state, SpunModules.BAD, "turns", a);
        }
        ranges(state, "adds", k, k, k);
        ranges(state, "times", k, k, k);
        ranges(state, "over", k, k);
        ranges(state, "parts", k, k, vector);
        ranges(state, "rests", k, k, vector);
        ranges(state, "size", k);
        ranges(state, "at", k, to(0, 1), place, place);
        ranges(state, "moved", k, to(0, 1), vector);
        ranges(state, "spun", k, vector);
        ranges(state, "row", k, vector, any);
        ranges(state, "simple", k);
        ranges(state, "least", k);
        ranges(state, "factors", k);
        ranges(state, "factor", k, any, to(0, 3));
        ranges(state, "telling", k, any, any);
        ranges(state, "common", k, k);
        ranges(state, "ways", k, k);
        ranges(state, "layer", k, any);
        ranges(state, "spaces", k, to(0, 6));
        ranges(state, "type", to(0, 127));
        ranges(state, "word", k, place, place);
        ranges(state, "nulls", k, to(0, 2));
        ranges(state, "poly", k, to(0, 3));
        ranges(state, "told", to(0, 5));
    }

    private static void notPossible() {
        String large = "sizes(0, 4);draws(0, 1);sizes(1, 3);sizes(2, 5);sets(2, 0, 1, 1, 1);type(97)";
        fails(large, SpunModules.NO, "adds", 3, 0, 1);
        fails(large, SpunModules.NO, "times", 3, 0, 1);
        fails(large, SpunModules.NO, "adds", 0, 0, 0);
        fails(large, SpunModules.NO, "parts", 3, 0, 0);
        fails(large, SpunModules.NO, "rests", 3, 3, 1);
        fails(large, SpunModules.NO, "spaces", 2, 0);
        fails(large, SpunModules.BAD, "adds", 4, 0, 1);
        fails(large, SpunModules.BAD, "times", -1, 0, 1);
        fails(large, SpunModules.BAD, "adds", 0, 0, 4);
        fails(large, SpunModules.BAD, "parts", 4, 0, 0);
        fails(large, SpunModules.BAD, "rests", 4, 3, 1);
        fails(large, SpunModules.BAD, "spaces", 2, 7);
        fails(large, SpunModules.BAD, "spaces", 2, -1);
        fails("type(97)", SpunModules.NO, "back");
        fails("begins(3);sizes(0, 3)", SpunModules.NO, "adds", 1, 0, 0);
        fails("begins(3);sizes(0, 3);sizes(1, 2)", SpunModules.NO, "times", 2, 0, 1);
        fails("begins(3);sizes(0, 2);sets(0, 0, 0, 1, 2)", SpunModules.NO, "rests", 1, 0, 1);
        StringBuilder full = new StringBuilder("sizes(0, 2)");
        for (int i = 0; i < 40; i++) {
            full.append(";type(").append(i % 2 == 0 ? 98 : 43).append(')');
        }
        fails(full.toString(), SpunModules.FULL, "type", 97);
        fails(full.toString(), SpunModules.BAD, "type", 128);
        fails(full.toString(), SpunModules.BAD, "type", -1);
    }

    public static void main(String[] args) {
        outside(TWO, 2);
        outside(THREE, 3);
        notPossible();
        CHECK.ends();
    }
}
