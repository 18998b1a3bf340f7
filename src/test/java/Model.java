import java.util.ArrayDeque;
import java.util.ArrayList;
import java.util.Arrays;
import java.util.Deque;
import java.util.HashSet;
import java.util.List;
import java.util.Set;

/**
 * The document's words, followed literally and without any care for speed: subspaces are sets of all their vectors,
 * coefficients are found by trying all of them. ModelTest compares SpunModules with it.
 */
final class Model {
    static final int NONE = -1, BAD = -2, NO = -3, FULL = -4;

    /** A module: m[0] is a, m[1] is b. */
    static final class Mod {
        final int n;
        final int[][][] m;

        Mod(int n) {
            this.n = n;
            this.m = new int[2][n][n];
        }

        Mod copy() {
            Mod c = new Mod(n);
            for (int g = 0; g < 2; g++) {
                for (int i = 0; i < n; i++) {
                    c.m[g][i] = m[g][i].clone();
                }
            }
            return c;
        }

        List<Integer> sequence() {
            List<Integer> s = new ArrayList<>();
            for (int[][] g : m) {
                for (int[] row : g) {
                    for (int e : row) {
                        s.add(e);
                    }
                }
            }
            return s;
        }
    }

    private record State(int p, Mod[] mods) { }

    int p = 2;
    Mod[] mods = {new Mod(1), new Mod(1), new Mod(1), new Mod(1)};
    private final Deque<State> past = new ArrayDeque<>();
    private final int[] errors = new int[3];
    private String text = "";
    private String word = "a";
    private static final short[][] sums = new short[4 * 7 * 3 * 243][];

    // ---- plumbing

    private int fail(int code) {
        errors[-2 - code]++;
        return code;
    }

    private void change() {
        Mod[] copies = new Mod[4];
        for (int k = 0; k < 4; k++) {
            copies[k] = mods[k].copy();
        }
        past.addLast(new State(p, copies));
        if (past.size() > 8) {
            past.removeFirst();
        }
    }

    private boolean in(int x, int low, int high) {
        return x >= low && x <= high;
    }

    private boolean mod(int k) {
        return in(k, 0, 3);
    }

    private boolean place(int k, int i) {
        return mod(k) && in(i, 0, mods[k].n - 1);
    }

    private boolean vec(int k, int v) {
        return mod(k) && in(v, 0, pow(mods[k].n) - 1);
    }

    private int most() {
        return p == 2 ? 6 : 5;
    }

    private int pow(int n) {
        int r = 1;
        for (int i = 0; i < n; i++) {
            r *= p;
        }
        return r;
    }

    private int[] digits(int v, int n) {
        int[] d = new int[n];
        for (int i = 0; i < n; i++) {
            d[i] = v % p;
            v /= p;
        }
        return d;
    }

    private int number(int[] d) {
        int v = 0;
        for (int i = d.length - 1; i >= 0; i--) {
            v = v * p + d[i];
        }
        return v;
    }

    /** v + c * w, remembered, for most of the model's time goes here. */
    private int plus(int v, int c, int w, int n) {
        int key = ((p * 7 + n) * 3 + c) * 243 + v;
        if (sums[key] == null) {
            sums[key] = new short[243];
        }
        if (sums[key][w] == 0) {
            sums[key][w] = (short) (1 + added(v, c, w, n));
        }
        return sums[key][w] - 1;
    }

    private int added(int v, int c, int w, int n) {
        int[] x = digits(v, n);
        int[] y = digits(w, n);
        for (int i = 0; i < n; i++) {
            x[i] = (x[i] + c * y[i]) % p;
        }
        return number(x);
    }

    private int[][] product(int[][] x, int[][] y) {
        int[][] r = new int[x.length][y[0].length];
        for (int i = 0; i < x.length; i++) {
            for (int j = 0; j < y[0].length; j++) {
                for (int q = 0; q < y.length; q++) {
                    r[i][j] = (r[i][j] + x[i][q] * y[q][j]) % p;
                }
            }
        }
        return r;
    }

    private int act(int v, int[][] m) {
        return number(product(new int[][] {digits(v, m.length)}, m)[0]);
    }

    // ---- sets of vectors

    private boolean[] zeroSpace(int n) {
        boolean[] s = new boolean[pow(n)];
        s[0] = true;
        return s;
    }

    private boolean[] with(boolean[] s, int v, int n) {
        if (s[v]) {
            return s;
        }
        boolean[] r = new boolean[s.length];
        for (int w = 0; w < s.length; w++) {
            for (int c = 0; s[w] && c < p; c++) {
                r[plus(w, c, v, n)] = true;
            }
        }
        return r;
    }

    private boolean[] invariant(boolean[] s, Mod m) {
        boolean[] r = s;
        boolean grown = true;
        while (grown) {
            grown = false;
            for (int v = 0; v < r.length; v++) {
                for (int g = 0; r[v] && g < 2; g++) {
                    int w = act(v, m.m[g]);
                    if (!r[w]) {
                        r = with(r, w, m.n);
                        grown = true;
                    }
                }
            }
        }
        return r;
    }

    private boolean[] spin(Mod m, int v) {
        return invariant(with(zeroSpace(m.n), v, m.n), m);
    }

    private int dim(boolean[] s) {
        int count = 0;
        for (boolean b : s) {
            count += b ? 1 : 0;
        }
        int d = 0;
        while (pow(d) < count) {
            d++;
        }
        return d;
    }

    private List<Integer> pivots(boolean[] s, int n) {
        List<Integer> list = new ArrayList<>();
        for (int i = 0; i < n; i++) {
            boolean found = false;
            for (int v = 1; v < s.length; v++) {
                found |= s[v] && lead(digits(v, n)) == i;
            }
            if (found) {
                list.add(i);
            }
        }
        return list;
    }

    private int lead(int[] d) {
        for (int i = 0; i < d.length; i++) {
            if (d[i] != 0) {
                return i;
            }
        }
        return d.length;
    }

    private List<Integer> basis(boolean[] s, int n) {
        List<Integer> pivots = pivots(s, n);
        List<Integer> list = new ArrayList<>();
        for (int own : pivots) {
            for (int v = 1; v < s.length; v++) {
                int[] d = digits(v, n);
                boolean fits = s[v] && lead(d) == own;
                for (int other : pivots) {
                    fits &= d[other] == (other == own ? 1 : 0);
                }
                if (fits) {
                    list.add(v);
                }
            }
        }
        return list;
    }

    /** All combinations of the list: that with the coefficients of the digits of t is at t. */
    private int[] combinations(List<Integer> list, int n) {
        int[] sums = new int[pow(list.size())];
        int known = 1;
        for (int vector : list) {
            for (int t = known; t < known * p; t++) {
                sums[t] = plus(sums[t - known], 1, vector, n);
            }
            known *= p;
        }
        return sums;
    }

    /** Tries all coefficients; null if v is no combination of the list. */
    private int[] coefficients(int v, List<Integer> list, int[] combinations) {
        for (int t = 0; t < combinations.length; t++) {
            if (combinations[t] == v) {
                return digits(t, list.size());
            }
        }
        return null;
    }

    private Mod written(Mod m, List<Integer> list) {
        Mod r = new Mod(list.size());
        int[] combinations = combinations(list, m.n);
        for (int g = 0; g < 2; g++) {
            for (int i = 0; i < r.n; i++) {
                r.m[g][i] = coefficients(act(list.get(i), m.m[g]), list, combinations);
            }
        }
        return r;
    }

    private Mod part(Mod m, boolean[] s) {
        return written(m, basis(s, m.n));
    }

    private Mod quotient(Mod m, boolean[] s) {
        List<Integer> pivots = pivots(s, m.n);
        List<Integer> places = new ArrayList<>();
        for (int i = 0; i < m.n; i++) {
            if (!pivots.contains(i)) {
                places.add(i);
            }
        }
        Mod r = new Mod(places.size());
        for (int g = 0; g < 2; g++) {
            for (int i = 0; i < r.n; i++) {
                int w = number(m.m[g][places.get(i)]);
                int[] left = digits(less(w, s, pivots, m.n), m.n);
                for (int j = 0; j < r.n; j++) {
                    r.m[g][i][j] = left[places.get(j)];
                }
            }
        }
        return r;
    }

    private int less(int w, boolean[] s, List<Integer> pivots, int n) {
        for (int v = 0; v < s.length; v++) {
            boolean same = s[v];
            for (int i : pivots) {
                same &= digits(v, n)[i] == digits(w, n)[i];
            }
            if (same) {
                return plus(w, p - 1, v, n);
            }
        }
        throw new IllegalStateException();
    }

    // ---- factors

    private boolean isSimple(Mod m) {
        for (int v = 1; v < pow(m.n); v++) {
            if (dim(spin(m, v)) < m.n) {
                return false;
            }
        }
        return true;
    }

    private Mod canonical(Mod m) {
        Mod best = null;
        for (int v = 1; v < pow(m.n); v++) {
            List<Integer> list = new ArrayList<>();
            list.add(v);
            for (int i = 0; i < list.size(); i++) {
                for (int g = 0; g < 2; g++) {
                    int w = act(list.get(i), m.m[g]);
                    if (coefficients(w, list, combinations(list, m.n)) == null) {
                        list.add(w);
                    }
                }
            }
            Mod tried = written(m, list);
            if (best == null || compare(tried, best) < 0) {
                best = tried;
            }
        }
        return best;
    }

    private int compare(Mod x, Mod y) {
        if (x.n != y.n) {
            return x.n - y.n;
        }
        List<Integer> s = x.sequence();
        List<Integer> t = y.sequence();
        for (int i = 0; i < s.size(); i++) {
            if (!s.get(i).equals(t.get(i))) {
                return s.get(i) - t.get(i);
            }
        }
        return 0;
    }

    /** Splits at the last space that is neither 0 nor the whole, not at a smallest one. */
    private void collect(Mod m, List<Mod> list) {
        for (int v = pow(m.n) - 1; v > 0; v--) {
            boolean[] s = spin(m, v);
            if (dim(s) < m.n) {
                collect(part(m, s), list);
                collect(quotient(m, s), list);
                return;
            }
        }
        list.add(canonical(m));
    }

    private List<Mod> factorList(Mod m) {
        List<Mod> list = new ArrayList<>();
        collect(m, list);
        list.sort(this::compare);
        return list;
    }

    private int same(List<Mod> list, Mod m) {
        int count = 0;
        for (Mod f : list) {
            count += compare(f, m) == 0 ? 1 : 0;
        }
        return count;
    }

    // ---- homomorphisms, socles, subspaces

    private int homs(Mod x, Mod y) {
        int unknowns = x.n * y.n;
        if (unknowns <= (p == 2 ? 9 : 6)) {
            return homsByTrying(x, y);
        }
        List<int[]> rows = new ArrayList<>();
        for (int g = 0; g < 2; g++) {
            for (int i = 0; i < x.n; i++) {
                for (int j = 0; j < y.n; j++) {
                    int[] e = new int[unknowns];
                    for (int q = 0; q < x.n; q++) {
                        e[q * y.n + j] += x.m[g][i][q];
                    }
                    for (int r = 0; r < y.n; r++) {
                        e[i * y.n + r] += p - y.m[g][r][j];
                    }
                    rows.add(e);
                }
            }
        }
        return unknowns - rank(rows, unknowns);
    }

    private int homsByTrying(Mod x, Mod y) {
        int count = 0;
        for (int t = 0; t < pow(x.n * y.n); t++) {
            int[] d = digits(t, x.n * y.n);
            int[][] h = new int[x.n][];
            for (int i = 0; i < x.n; i++) {
                h[i] = Arrays.copyOfRange(d, i * y.n, (i + 1) * y.n);
            }
            boolean fits = true;
            for (int g = 0; g < 2; g++) {
                fits &= Arrays.deepEquals(product(x.m[g], h), product(h, y.m[g]));
            }
            count += fits ? 1 : 0;
        }
        int d = 0;
        while (pow(d) < count) {
            d++;
        }
        return d;
    }

    private int rank(List<int[]> rows, int columns) {
        int rank = 0;
        for (int c = 0; c < columns; c++) {
            int[] pivot = null;
            for (int[] row : rows) {
                if (pivot == null && row[c] % p != 0) {
                    pivot = row;
                }
            }
            if (pivot == null) {
                continue;
            }
            rows.remove(pivot);
            rank++;
            for (int[] row : rows) {
                while (row[c] % p != 0) {
                    for (int j = 0; j < columns; j++) {
                        row[j] = (row[j] + pivot[j]) % p;
                    }
                }
            }
        }
        return rank;
    }

    private boolean[] socle(Mod m) {
        boolean[][] spins = new boolean[pow(m.n)][];
        for (int v = 0; v < spins.length; v++) {
            spins[v] = spin(m, v);
        }
        boolean[] sum = zeroSpace(m.n);
        for (int v = 1; v < spins.length; v++) {
            boolean simple = true;
            for (int w = 1; w < spins.length; w++) {
                simple &= !spins[v][w] || Arrays.equals(spins[v], spins[w]);
            }
            sum = simple ? invariant(with(sum, v, m.n), m) : sum;
        }
        return sum;
    }

    private int countSpaces(Mod m, int d) {
        Set<String> seen = new HashSet<>();
        List<boolean[]> list = new ArrayList<>();
        list.add(zeroSpace(m.n));
        seen.add(Arrays.toString(zeroSpace(m.n)));
        int count = 0;
        for (int i = 0; i < list.size(); i++) {
            count += dim(list.get(i)) == d ? 1 : 0;
            for (int v = 1; v < pow(m.n); v++) {
                boolean[] t = invariant(with(list.get(i), v, m.n), m);
                if (seen.add(Arrays.toString(t))) {
                    list.add(t);
                }
            }
        }
        return count;
    }

    // ---- words

    /** Reads one term from the index on; returns the index behind it, or -1 - fault. */
    private static int readTerm(String s, int from) {
        int i = from;
        if (i < s.length() && s.charAt(i) >= '0' && s.charAt(i) <= '2') {
            i++;
        } else if (i >= s.length() || (s.charAt(i) != 'a' && s.charAt(i) != 'b')) {
            return -1 - i;
        }
        int letters = 0;
        while (i < s.length() && (s.charAt(i) == 'a' || s.charAt(i) == 'b')) {
            letters++;
            if (letters == 7) {
                return -1 - i;
            }
            i++;
        }
        return i;
    }

    private static int readFault(String s) {
        int i = readTerm(s, 0);
        while (i >= 0 && i < s.length()) {
            if (s.charAt(i) != '+') {
                return i;
            }
            i = readTerm(s, i + 1);
        }
        return i < 0 ? -1 - i : -1;
    }

    private int[][] value(Mod m) {
        int[][] sum = new int[m.n][m.n];
        for (String term : word.split("\\+")) {
            int[][] t = new int[m.n][m.n];
            boolean digit = Character.isDigit(term.charAt(0));
            for (int i = 0; i < m.n; i++) {
                t[i][i] = digit ? (term.charAt(0) - '0') % p : 1;
            }
            for (char c : (digit ? term.substring(1) : term).toCharArray()) {
                t = product(t, m.m[c - 'a']);
            }
            for (int i = 0; i < m.n; i++) {
                for (int j = 0; j < m.n; j++) {
                    sum[i][j] = (sum[i][j] + t[i][j]) % p;
                }
            }
        }
        return sum;
    }

    /** The determinant by its definition: the first row is expanded, with polynomials as entries. */
    private int[] determinant(int[][][] m) {
        int n = m.length;
        if (n == 0) {
            return new int[] {1};
        }
        int[] sum = new int[n + 1];
        for (int j = 0; j < n; j++) {
            int[][][] minor = new int[n - 1][n - 1][];
            for (int i = 1; i < n; i++) {
                for (int q = 0; q < n - 1; q++) {
                    minor[i - 1][q] = m[i][q < j ? q : q + 1];
                }
            }
            int[] d = determinant(minor);
            int sign = j % 2 == 0 ? 1 : p - 1;
            for (int s = 0; s < d.length; s++) {
                for (int t = 0; t < 2 && s + t <= n; t++) {
                    sum[s + t] = (sum[s + t] + sign * d[s] * m[0][j][t]) % p;
                }
            }
        }
        return sum;
    }

    // ---- the face

    int begins(int q) {
        if (q != 2 && q != 3) {
            return fail(BAD);
        }
        change();
        p = q;
        for (int k = 0; k < 4; k++) {
            mods[k] = new Mod(1);
        }
        return q;
    }

    int sizes(int k, int n) {
        if (!mod(k) || !in(n, 1, most())) {
            return fail(BAD);
        }
        change();
        mods[k] = new Mod(n);
        return n;
    }

    int sets(int k, int g, int i, int j, int v) {
        if (!in(g, 0, 1) || !place(k, i) || !place(k, j) || !in(v, 0, p - 1)) {
            return fail(BAD);
        }
        change();
        int before = mods[k].m[g][i][j];
        mods[k].m[g][i][j] = v;
        return before;
    }

    int draws(int k, int seed) {
        if (!mod(k) || !in(seed, 0, 999999)) {
            return fail(BAD);
        }
        change();
        long x = seed;
        int count = 0;
        for (int[][] m : mods[k].m) {
            for (int[] row : m) {
                for (int j = 0; j < row.length; j++) {
                    x = (x * 1103515245L + 12345L) % (1L << 31);
                    row[j] = (int) ((x / 65536) % p);
                    count += row[j] != 0 ? 1 : 0;
                }
            }
        }
        return count;
    }

    int turns(int k, int i, int j, int c) {
        if (!place(k, i) || !place(k, j) || i == j || !in(c, 0, p - 1)) {
            return fail(BAD);
        }
        change();
        Mod m = mods[k];
        List<Integer> list = new ArrayList<>();
        for (int h = 0; h < m.n; h++) {
            list.add(h == i ? plus(pow(i), c, pow(j), m.n) : pow(h));
        }
        Mod r = written(m, list);
        int count = 0;
        for (int t = 0; t < r.sequence().size(); t++) {
            count += r.sequence().get(t).equals(m.sequence().get(t)) ? 0 : 1;
        }
        mods[k] = r;
        return count;
    }

    private int becomes(int k, Mod m) {
        change();
        mods[k] = m;
        return m.n;
    }

    int adds(int k, int x, int y) {
        if (!mod(k) || !mod(x) || !mod(y)) {
            return fail(BAD);
        }
        Mod u = mods[x];
        Mod v = mods[y];
        if (u.n + v.n > most()) {
            return fail(NO);
        }
        Mod r = new Mod(u.n + v.n);
        for (int g = 0; g < 2; g++) {
            for (int i = 0; i < r.n; i++) {
                for (int j = 0; j < r.n; j++) {
                    if (i < u.n && j < u.n) {
                        r.m[g][i][j] = u.m[g][i][j];
                    } else if (i >= u.n && j >= u.n) {
                        r.m[g][i][j] = v.m[g][i - u.n][j - u.n];
                    }
                }
            }
        }
        return becomes(k, r);
    }

    int times(int k, int x, int y) {
        if (!mod(k) || !mod(x) || !mod(y)) {
            return fail(BAD);
        }
        Mod u = mods[x];
        Mod v = mods[y];
        if (u.n * v.n > most()) {
            return fail(NO);
        }
        Mod r = new Mod(u.n * v.n);
        for (int g = 0; g < 2; g++) {
            for (int s = 0; s < r.n; s++) {
                for (int t = 0; t < r.n; t++) {
                    r.m[g][s][t] = u.m[g][s / v.n][t / v.n] * v.m[g][s % v.n][t % v.n] % p;
                }
            }
        }
        return becomes(k, r);
    }

    int over(int k, int x) {
        if (!mod(k) || !mod(x)) {
            return fail(BAD);
        }
        Mod r = new Mod(mods[x].n);
        for (int g = 0; g < 2; g++) {
            for (int i = 0; i < r.n; i++) {
                for (int j = 0; j < r.n; j++) {
                    r.m[g][i][j] = mods[x].m[g][j][i];
                }
            }
        }
        return becomes(k, r);
    }

    int parts(int k, int x, int v) {
        if (!mod(k) || !vec(x, v)) {
            return fail(BAD);
        }
        return v == 0 ? fail(NO) : becomes(k, part(mods[x], spin(mods[x], v)));
    }

    int rests(int k, int x, int v) {
        if (!mod(k) || !vec(x, v)) {
            return fail(BAD);
        }
        boolean[] s = spin(mods[x], v);
        return dim(s) == mods[x].n ? fail(NO) : becomes(k, quotient(mods[x], s));
    }

    int size(int k) {
        return mod(k) ? mods[k].n : fail(BAD);
    }

    int at(int k, int g, int i, int j) {
        return in(g, 0, 1) && place(k, i) && place(k, j) ? mods[k].m[g][i][j] : fail(BAD);
    }

    int moved(int k, int g, int v) {
        return in(g, 0, 1) && vec(k, v) ? act(v, mods[k].m[g]) : fail(BAD);
    }

    int spun(int k, int v) {
        return vec(k, v) ? dim(spin(mods[k], v)) : fail(BAD);
    }

    int row(int k, int v, int i) {
        if (!vec(k, v) || i < 0) {
            return fail(BAD);
        }
        List<Integer> b = basis(spin(mods[k], v), mods[k].n);
        return i < b.size() ? b.get(i) : NONE;
    }

    int simple(int k) {
        return !mod(k) ? fail(BAD) : isSimple(mods[k]) ? 1 : 0;
    }

    int least(int k) {
        if (!mod(k)) {
            return fail(BAD);
        }
        int best = mods[k].n;
        for (int v = 1; v < pow(mods[k].n); v++) {
            best = Math.min(best, dim(spin(mods[k], v)));
        }
        return best;
    }

    int factors(int k) {
        return mod(k) ? factorList(mods[k]).size() : fail(BAD);
    }

    int factor(int k, int i, int what) {
        if (!mod(k) || i < 0 || !in(what, 0, 3)) {
            return fail(BAD);
        }
        List<Mod> list = factorList(mods[k]);
        if (i >= list.size()) {
            return NONE;
        }
        Mod f = list.get(i);
        return what == 0 ? f.n : what == 1 ? same(list, f) : what == 2 ? homs(f, f) : homs(f, mods[k]);
    }

    int telling(int k, int i, int j) {
        if (!mod(k) || i < 0 || j < 0) {
            return fail(BAD);
        }
        List<Mod> list = factorList(mods[k]);
        return i < list.size() && j < list.get(i).sequence().size() ? list.get(i).sequence().get(j) : NONE;
    }

    int common(int x, int y) {
        if (!mod(x) || !mod(y)) {
            return fail(BAD);
        }
        List<Mod> other = factorList(mods[y]);
        int count = 0;
        for (Mod f : factorList(mods[x])) {
            for (Mod g : other) {
                if (compare(f, g) == 0) {
                    other.remove(g);
                    count++;
                    break;
                }
            }
        }
        return count;
    }

    int ways(int x, int y) {
        return mod(x) && mod(y) ? homs(mods[x], mods[y]) : fail(BAD);
    }

    int layer(int k, int i) {
        if (!mod(k) || i < 0) {
            return fail(BAD);
        }
        Mod m = mods[k];
        for (int t = 0; m.n > 0; t++) {
            boolean[] s = socle(m);
            if (t == i) {
                return dim(s);
            }
            m = quotient(m, s);
        }
        return NONE;
    }

    int spaces(int k, int d) {
        if (!mod(k) || !in(d, 0, 6)) {
            return fail(BAD);
        }
        return mods[k].n > 4 ? fail(NO) : countSpaces(mods[k], d);
    }

    int type(int c) {
        if (!in(c, 0, 127)) {
            return fail(BAD);
        }
        if (text.length() == 40) {
            return fail(FULL);
        }
        text += (char) c;
        return text.length();
    }

    int clear() {
        int had = text.length();
        text = "";
        return had;
    }

    int tells() {
        int fault = readFault(text);
        if (fault >= 0) {
            return -10 - fault;
        }
        word = text;
        return word.split("\\+").length;
    }

    int word(int k, int i, int j) {
        return place(k, i) && place(k, j) ? value(mods[k])[i][j] : fail(BAD);
    }

    int nulls(int k, int what) {
        if (!mod(k) || !in(what, 0, 2)) {
            return fail(BAD);
        }
        int[][] m = value(mods[k]);
        boolean[] s = new boolean[pow(mods[k].n)];
        int first = NONE;
        for (int v = s.length - 1; v >= 0; v--) {
            s[v] = act(v, m) == 0;
            first = s[v] && v > 0 ? v : first;
        }
        return what == 0 ? dim(s) : what == 1 ? first : dim(invariant(s, mods[k]));
    }

    int poly(int k, int i) {
        if (!mod(k) || !in(i, 0, mods[k].n)) {
            return fail(BAD);
        }
        int n = mods[k].n;
        int[][] v = value(mods[k]);
        int[][][] m = new int[n][n][];
        for (int r = 0; r < n; r++) {
            for (int c = 0; c < n; c++) {
                m[r][c] = new int[] {(p - v[r][c]) % p, r == c ? 1 : 0};
            }
        }
        return determinant(m)[i];
    }

    int back() {
        if (past.isEmpty()) {
            return fail(NO);
        }
        State s = past.removeLast();
        p = s.p();
        mods = s.mods();
        return past.size();
    }

    int told(int what) {
        switch (what) {
            case 0, 1, 2:
                return errors[what];
            case 3:
                return past.size();
            case 4:
                return p;
            case 5:
                return text.length();
            default:
                return fail(BAD);
        }
    }

    long digest() {
        List<Integer> numbers = new ArrayList<>();
        for (int what = 0; what <= 5; what++) {
            numbers.add(told(what));
        }
        for (Mod m : mods) {
            numbers.add(m.n);
            numbers.addAll(m.sequence());
        }
        for (int[] row : value(mods[0])) {
            for (int e : row) {
                numbers.add(e);
            }
        }
        long h = 1562;
        for (int v : numbers) {
            h = 31 * h + v;
        }
        return h;
    }
}
