import java.util.ArrayList;
import java.util.List;
import java.util.TreeSet;

/** What the laws ask of an object; each question has a new object behind the same calls, so that none has too many. */
final class Laws {
    private Laws() { }

    /** Module 0 behind the calls. */
    static Hand module(String state) {
        return Hand.of(Refusals.made(state), 0);
    }

    /** The basis of the space that v spins in module 0. */
    static List<Integer> rows(String state, int v) {
        SpunModules x = Refusals.made(state);
        List<Integer> list = new ArrayList<>();
        int dim = x.spun(0, v);
        for (int i = 0; i < dim; i++) {
            list.add(x.row(0, v, i));
        }
        return list;
    }

    static int firstPlace(int[] elements) {
        int i = 0;
        while (i < elements.length && elements[i] == 0) {
            i++;
        }
        return i;
    }

    static List<Integer> pivots(Hand h, List<Integer> rows) {
        List<Integer> list = new ArrayList<>();
        for (int row : rows) {
            list.add(firstPlace(h.elements(row)));
        }
        return list;
    }

    static List<Integer> otherPlaces(Hand h, List<Integer> rows) {
        List<Integer> list = new ArrayList<>();
        for (int i = 0; i < h.n; i++) {
            if (!pivots(h, rows).contains(i)) {
                list.add(i);
            }
        }
        return list;
    }

    /** The elements, at the other places, of w less the vector of the subspace with the same elements at all pivots. */
    static int[] remainder(Hand h, List<Integer> rows, int w) {
        List<Integer> pivots = pivots(h, rows);
        List<Integer> others = otherPlaces(h, rows);
        int[] left = null;
        for (int s : h.span(rows)) {
            boolean same = true;
            for (int pivot : pivots) {
                same &= h.elements(s)[pivot] == h.elements(w)[pivot];
            }
            if (same) {
                left = h.elements(h.plus(w, h.p - 1, s));
            }
        }
        int[] picked = new int[others.size()];
        for (int j = 0; j < picked.length; j++) {
            picked[j] = left[others.get(j)];
        }
        return picked;
    }

    /** The canonical forms of the factors of module k, in their order. */
    static List<String> forms(SpunModules x, int k) {
        List<String> list = new ArrayList<>();
        int count = x.factors(k);
        for (int i = 0; i < count; i++) {
            int n = x.factor(k, i, 0);
            StringBuilder s = new StringBuilder();
            for (int j = 0; j < 2 * n * n; j++) {
                s.append(x.telling(k, i, j));
            }
            list.add(s.toString());
        }
        return list;
    }

    /** A canonical form as a module. */
    static Hand ofForm(int p, String form) {
        int n = 1;
        while (2 * n * n < form.length()) {
            n++;
        }
        int[][][] m = new int[2][n][n];
        for (int t = 0; t < form.length(); t++) {
            m[t / n / n][t / n % n][t % n] = form.charAt(t) - '0';
        }
        return new Hand(p, n, m);
    }

    /** The order of factors: by size, and for one size lexicographically. */
    static int order(String form, String other) {
        return form.length() != other.length() ? form.length() - other.length() : form.compareTo(other);
    }

    /** The vectors of module 0 whose spun space is simple as a module. */
    static List<Integer> simpleVectors(String state, int numbers) {
        List<Integer> list = new ArrayList<>();
        for (int v = 1; v < numbers; v++) {
            SpunModules x = Refusals.made(state);
            x.parts(1, 0, v);
            if (x.simple(1) == 1) {
                list.add(v);
            }
        }
        return list;
    }

    /** The value of a word in a module, from its text, which must have no fault. */
    static int[][] value(Hand h, String text) {
        int[][] sum = new int[h.n][h.n];
        for (String term : text.split("\\+")) {
            int c = Character.isDigit(term.charAt(0)) ? (term.charAt(0) - '0') % h.p : 1;
            int[][] product = Hand.unit(h.n);
            for (char letter : term.replaceAll("[0-2]", "").toCharArray()) {
                product = Hand.product(h.p, product, h.m[letter - 'a']);
            }
            for (int t = 0; t < h.n * h.n; t++) {
                sum[t / h.n][t % h.n] = (sum[t / h.n][t % h.n] + c * product[t / h.n][t % h.n]) % h.p;
            }
        }
        return sum;
    }

    static boolean subset(TreeSet<Integer> part, TreeSet<Integer> whole) {
        return whole.containsAll(part);
    }
}
