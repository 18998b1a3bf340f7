import java.util.ArrayList;
import java.util.List;

/** Lines of calls that bring a new object into a state. */
final class States {
    /** Four modules of different sizes, a text that is no word, another word than the first one, and two errors. */
    static final String TWO = "type(98);type(97);tells();type(43);sizes(0, 3);draws(0, 5);sizes(1, 4);draws(1, 6);"
        + "sizes(2, 2);draws(2, 4);sets(3, 1, 0, 0, 1);size(9);parts(0, 0, 0)";
    static final String THREE = "begins(3);type(50);type(97);tells();type(43);sizes(0, 2);draws(0, 5);sizes(1, 3);"
        + "draws(1, 6);sizes(2, 4);draws(2, 4);sets(3, 1, 0, 0, 2);size(9);parts(0, 0, 0)";

    private States() { }

    static String of(int p) {
        return p == 2 ? TWO : THREE;
    }

    static int largest(int p) {
        return p == 2 ? 6 : 5;
    }

    static int power(int p, int exponent) {
        int product = 1;
        for (int i = 0; i < exponent; i++) {
            product *= p;
        }
        return product;
    }

    /** The field, and module k with drawn entries. */
    static String drawn(int p, int k, int n, int seed) {
        return zero(p, k, n) + ";draws(" + k + ", " + seed + ")";
    }

    /** The field, and module k with this size and no entries but 0. */
    static String zero(int p, int k, int n) {
        return "begins(" + p + ");sizes(" + k + ", " + n + ")";
    }

    /** The field, and module k with a that sends each place to the next one, and the last to nothing. */
    static String chain(int p, int k, int n) {
        StringBuilder s = new StringBuilder(zero(p, k, n));
        for (int i = 0; i + 1 < n; i++) {
            s.append(sets(k, 0, i, i + 1, 1));
        }
        return s.toString();
    }

    /** The field, and module k with a that sends each place to the next one, and the last to the first. */
    static String circle(int p, int k, int n) {
        return chain(p, k, n) + sets(k, 0, n - 1, 0, 1);
    }

    /** The field, and module k with no invariant subspaces: besides the circle, b keeps place 0 alone. */
    static String simple(int p, int k, int n) {
        return circle(p, k, n) + sets(k, 1, 0, 0, 1);
    }

    static String sets(int k, int g, int i, int j, int v) {
        return ";" + Calls.told("sets", k, g, i, j, v);
    }

    /** The field, and module 0 as a sum of two drawn modules in another basis: it has invariant subspaces of many kinds. */
    static String sum(int p, int first, int second, int seed) {
        int n = first + second;
        return drawn(p, 1, first, seed) + ";sizes(2, " + second + ");draws(2, " + (seed + 1) + ");adds(0, 1, 2);turns(0, 0, " + (n - 1)
            + ", 1);turns(0, " + (n - 1) + ", 0, " + (p - 1) + ");sizes(1, 1);sizes(2, 1)";
    }

    /** Lines that make module 0 of the size n: drawn ones, sums, chains, circles and simple ones. */
    static List<String> many(int p, int n) {
        List<String> list = new ArrayList<>(List.of(zero(p, 0, n), chain(p, 0, n), circle(p, 0, n), simple(p, 0, n)));
        for (int seed = 1; seed <= 4; seed++) {
            list.add(drawn(p, 0, n, 100 * n + seed));
        }
        for (int first = 1; first < n; first++) {
            list.add(sum(p, first, n - first, 10 * n + first));
        }
        if (n > 1) {
            // one row less than a circle: b goes back from the middle
            list.add(chain(p, 0, n) + sets(0, 1, n / 2, 0, 1) + sets(0, 1, n - 1, n - 1, p - 1));
        }
        return list;
    }

    static String typed(String text) {
        StringBuilder s = new StringBuilder();
        for (int i = 0; i < text.length(); i++) {
            s.append(i == 0 ? "" : ";").append("type(").append((int) text.charAt(i)).append(')');
        }
        return s.toString();
    }
}
