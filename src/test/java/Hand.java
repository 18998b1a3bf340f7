import java.util.ArrayList;
import java.util.List;
import java.util.TreeSet;

/**
 * A module as its calls tell it (told(4), size(), at()), and the arithmetic of the document's definitions on it: what the
 * laws are checked with. A subspace is the set of the numbers of its vectors.
 */
final class Hand {
    final int p;
    final int n;
    final int[][][] m;

    Hand(int p, int n, int[][][] m) {
        this.p = p;
        this.n = n;
        this.m = m;
    }

    /** Module k of an object, which is asked 2 + 2 n n times. */
    static Hand of(SpunModules x, int k) {
        int n = x.size(k);
        int[][][] m = new int[2][n][n];
        for (int t = 0; t < 2 * n * n; t++) {
            m[t / n / n][t / n % n][t % n] = x.at(k, t / n / n, t / n % n, t % n);
        }
        return new Hand(x.told(4), n, m);
    }

    /** The calls that make module k this one; the field is not set. */
    String sets(int k) {
        StringBuilder s = new StringBuilder("; sizes(" + k + ", " + n + ")");
        for (int t = 0; t < 2 * n * n; t++) {
            if (m[t / n / n][t / n % n][t % n] != 0) {
                s.append(States.sets(k, t / n / n, t / n % n, t % n, m[t / n / n][t / n % n][t % n]));
            }
        }
        return s.toString();
    }

    int numbers() {
        return States.power(p, n);
    }

    int[] elements(int v) {
        int[] e = new int[n];
        for (int i = 0; i < n; i++) {
            e[i] = v / States.power(p, i) % p;
        }
        return e;
    }

    int number(int[] e) {
        int sum = 0;
        for (int i = 0; i < n; i++) {
            sum += e[i] * States.power(p, i);
        }
        return sum;
    }

    /** v + c * w. */
    int plus(int v, int c, int w) {
        int[] e = elements(v);
        int[] f = elements(w);
        for (int i = 0; i < n; i++) {
            e[i] = (e[i] + c * f[i]) % p;
        }
        return number(e);
    }

    int times(int v, int[][] matrix) {
        int[] e = elements(v);
        int[] f = new int[n];
        for (int j = 0; j < n; j++) {
            for (int i = 0; i < n; i++) {
                f[j] = (f[j] + e[i] * matrix[i][j]) % p;
            }
        }
        return number(f);
    }

    static int[][] product(int p, int[][] x, int[][] y) {
        int[][] r = new int[x.length][y[0].length];
        for (int i = 0; i < x.length; i++) {
            for (int j = 0; j < y[0].length; j++) {
                for (int q = 0; q < y.length; q++) {
                    r[i][j] = (r[i][j] + x[i][q] * y[q][j]) % p;
                }
            }
        }
        return r;
    }

    static int[][] unit(int n) {
        int[][] r = new int[n][n];
        for (int i = 0; i < n; i++) {
            r[i][i] = 1;
        }
        return r;
    }

    /** The sum of the vectors of a list, each times its coefficient. */
    int combined(List<Integer> list, int[] coefficients) {
        int sum = 0;
        for (int i = 0; i < list.size(); i++) {
            sum = plus(sum, coefficients[i], list.get(i));
        }
        return sum;
    }

    // ---- subspaces

    TreeSet<Integer> span(List<Integer> list) {
        TreeSet<Integer> all = new TreeSet<>(List.of(0));
        for (int v : list) {
            if (!all.contains(v)) {
                for (int w : all.toArray(new Integer[0])) {
                    for (int c = 1; c < p; c++) {
                        all.add(plus(w, c, v));
                    }
                }
            }
        }
        return all;
    }

    /** The smallest set with these vectors that has with each vector its products, and with two their sums. */
    TreeSet<Integer> closed(List<Integer> start) {
        List<Integer> list = new ArrayList<>(start);
        TreeSet<Integer> all = span(list);
        for (int i = 0; i < list.size(); i++) {
            for (int[][] matrix : m) {
                int w = times(list.get(i), matrix);
                if (!all.contains(w)) {
                    list.add(w);
                    all = span(list);
                }
            }
        }
        return all;
    }

    int dimension(TreeSet<Integer> space) {
        int d = 0;
        while (States.power(p, d) < space.size()) {
            d++;
        }
        return d;
    }

    // ---- the canonical form

    /** The coefficients of v in a list of independent vectors; null if it is no combination of them. */
    private int[] coefficients(int v, List<Integer> list) {
        int all = States.power(p, list.size());
        for (int t = 0; t < all; t++) {
            int[] c = new int[list.size()];
            for (int i = 0; i < c.length; i++) {
                c[i] = t / States.power(p, i) % p;
            }
            if (combined(list, c) == v) {
                return c;
            }
        }
        return null;
    }

    /** The sequence that the document computes from v; null if the list does not reach n vectors. */
    String sequence(int v) {
        List<Integer> list = new ArrayList<>(List.of(v));
        for (int i = 0; i < list.size(); i++) {
            for (int[][] matrix : m) {
                int w = times(list.get(i), matrix);
                if (!span(list).contains(w)) {
                    list.add(w);
                }
            }
        }
        if (list.size() < n) {
            return null;
        }
        StringBuilder s = new StringBuilder();
        for (int[][] matrix : m) {
            for (int u : list) {
                for (int c : coefficients(times(u, matrix), list)) {
                    s.append(c);
                }
            }
        }
        return s.toString();
    }
}
