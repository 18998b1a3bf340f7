import java.io.IOException;
import java.util.ArrayList;
import java.util.Arrays;
import java.util.List;
import java.util.TreeSet;

/** The first sentences of the promises, which say what a call does, as laws between the answers of different calls. */
public final class PromiseLawsTest {
    private static final Sentences DOC = new Sentences();
    private static final int[] FIELDS = {2, 3};
    private static final String[] WORDS = {"a", "b", "1", "0", "2", "ab+ba", "1+a", "2a+b", "aab+2bba+2", "a+b+ab"};

    private static void holds(String what, boolean so) {
        DOC.due(what, so ? 1 : 0, 1);
    }

    private static List<String> states() {
        List<String> list = new ArrayList<>();
        for (int p : FIELDS) {
            for (int n = 1; n <= States.largest(p); n++) {
                list.addAll(States.many(p, n));
            }
        }
        return list;
    }

    /** Module 0 of the first state, and as module 1 that of the second one. */
    private static String both(int p, String first, String second) {
        return "begins(" + p + ")" + Laws.module(first).sets(0) + Laws.module(second).sets(1);
    }

    private static boolean same(SpunModules x, int k, Hand h) {
        return Arrays.deepEquals(Hand.of(x, k).m, h.m);
    }

    // ---- modules

    private static void begins() {
        DOC.says(2, "Sets p.");
        for (int p : FIELDS) {
            for (int q : FIELDS) {
                SpunModules x = Refusals.made(States.of(p) + ";begins(" + q + ")");
                DOC.due("p", x.told(4), q);
                // (p - 1) + (p - 1) tells the fields apart
                DOC.due("the largest element", x.sets(0, 0, 0, 0, q - 1), 0);
                DOC.due("an element too large", x.sets(0, 0, 0, 0, q), SpunModules.BAD);
                Refusals.makes(x, "clear();" + States.typed("a+a") + ";tells()");
                DOC.due("a sum modulo p", x.word(0, 0, 0), (2 * q - 2) % q);
            }
        }
    }

    private static void sizes() {
        DOC.says(3, "Sets the size of a module.");
        for (int p : FIELDS) {
            for (int k = 0; k < 4; k++) {
                for (int n = 1; n <= States.largest(p); n++) {
                    SpunModules x = Refusals.made(States.of(p));
                    int[] before = {x.size(0), x.size(1), x.size(2), x.size(3)};
                    x.sizes(k, n);
                    for (int other = 0; other < 4; other++) {
                        DOC.due("size(" + other + ") behind sizes(" + k + ", " + n + ")", x.size(other), other == k ? n : before[other]);
                    }
                    holds("its vectors", x.moved(k, 0, States.power(p, n) - 1) == 0 && x.moved(k, 0, States.power(p, n)) == SpunModules.BAD);
                }
            }
        }
    }

    private static void draws() {
        DOC.says(5, "Fills both matrices of a module with pseudo-random entries, all rows of a one after another, then those of b.");
        for (int p : FIELDS) {
            for (int n = 1; n <= States.largest(p); n++) {
                for (int seed = 0; seed < 1000000; seed += 47111) {
                    SpunModules x = Refusals.made(States.drawn(p, 2, n, seed));
                    long state = seed;
                    for (int t = 0; t < 2 * n * n; t++) {
                        state = (state * 1103515245L + 12345L) % (1L << 31);
                        DOC.due("entry " + t + " for the seed " + seed, x.at(2, t / n / n, t / n % n, t % n), state / 65536 % p);
                    }
                }
            }
        }
    }

    private static void turns() {
        DOC.says(6, "Writes a module with respect to another basis: it consists of the unit vectors, but instead of unit vector i of the sum "
            + "of unit vector i and c times unit vector j. Row h of a then contains the coefficients of (basis vector h) * a with respect to "
            + "this basis; likewise b.");
        for (String state : states()) {
            Hand h = Laws.module(state);
            for (int t = 0; t < h.n * h.n * h.p; t++) {
                int i = t / h.n % h.n;
                int j = t % h.n;
                int c = t / h.n / h.n;
                if (i != j) {
                    isTurned(state, h, i, j, c);
                }
            }
        }
    }

    private static void isTurned(String state, Hand h, int i, int j, int c) {
        SpunModules x = Refusals.made(state);
        int answer = x.turns(0, i, j, c);
        Hand turned = Hand.of(x, 0);
        List<Integer> basis = new ArrayList<>();
        for (int u = 0; u < h.n; u++) {
            int unit = States.power(h.p, u);
            basis.add(u == i ? h.plus(unit, c, States.power(h.p, j)) : unit);
        }
        int changed = 0;
        for (int t = 0; t < 2 * h.n; t++) {
            int[] row = turned.m[t / h.n][t % h.n];
            String what = state + ": " + Calls.told("turns", 0, i, j, c) + ", row " + t;
            DOC.due(what, h.combined(basis, row), h.times(basis.get(t % h.n), h.m[t / h.n]));
            for (int u = 0; u < h.n; u++) {
                changed += row[u] == h.m[t / h.n][t % h.n][u] ? 0 : 1;
            }
        }
        DOC.due(state + ": " + Calls.told("turns", 0, i, j, c), answer, changed);
        DOC.due(state + ": turned back", x.turns(0, i, j, (h.p - c) % h.p), changed);
        holds(state + ": turned forth and back", same(x, 0, h));
    }

    /** Two modules of all sizes that a sum may have. */
    private static List<String> pairs(int p, boolean product) {
        List<String> list = new ArrayList<>();
        for (int n = 1; n <= States.largest(p); n++) {
            for (int m = 1; (product ? n * m : n + m) <= States.largest(p); m++) {
                List<String> seconds = States.many(p, m);
                int at = 0;
                for (String first : States.many(p, n)) {
                    list.add(both(p, first, seconds.get(at % seconds.size())));
                    at++;
                }
            }
        }
        return list;
    }

    private static void adds() {
        DOC.says(7, "Makes module k the direct sum of the modules x and y:");
        for (int p : FIELDS) {
            for (String state : pairs(p, false)) {
                SpunModules x = Refusals.made(state + ";adds(2, 0, 1)");
                for (int z = 0; z < 3; z++) {
                    DOC.due(state + ": homomorphisms to the sum", x.ways(z, 2), x.ways(z, 0) + x.ways(z, 1));
                    DOC.due(state + ": homomorphisms from the sum", x.ways(2, z), x.ways(0, z) + x.ways(1, z));
                }
                DOC.due(state + ": factors of the sum", x.factors(2), x.factors(0) + x.factors(1));
                DOC.due(state + ": the least dimension", x.least(2), Math.min(x.least(0), x.least(1)));
                for (int i = 0; i < 6; i++) {
                    DOC.due(state + ": layer " + i, Math.max(0, x.layer(2, i)), Math.max(0, x.layer(0, i)) + Math.max(0, x.layer(1, i)));
                }
                for (String text : new String[] {"b+2a", "aab+1"}) {
                    Refusals.makes(x, "clear();" + States.typed(text) + ";tells()");
                    DOC.due(state + ": the null space", x.nulls(2, 0), x.nulls(0, 0) + x.nulls(1, 0));
                }
            }
        }
    }

    private static void times() {
        DOC.says(8, "Makes module k the tensor product of the modules x and y: its place (size of y) * i + j stands for place i of x and place "
            + "j of y, and the entry of a in the row for (i, j) and the column for (q, r) is the product of the entry of a of x in row i and "
            + "column q and that of a of y in row j and column r; likewise b.");
        for (int p : FIELDS) {
            for (String state : pairs(p, true)) {
                SpunModules x = Refusals.made(state);
                Hand first = Hand.of(x, 0);
                Hand second = Hand.of(x, 1);
                DOC.due(state + ": its size", x.times(2, 0, 1), first.n * second.n);
                Hand product = Hand.of(x, 2);
                for (int t = 0; t < 2 * product.n * product.n; t++) {
                    int g = t / product.n / product.n;
                    int row = t / product.n % product.n;
                    int column = t % product.n;
                    int entry = first.m[g][row / second.n][column / second.n] * second.m[g][row % second.n][column % second.n];
                    DOC.due(state + ": entry " + t, product.m[g][row][column], entry % p);
                }
            }
        }
    }

    // ---- asked

    private static void entries() {
        DOC.says(12, "Returns the size of a module.");
        for (String state : states()) {
            SpunModules x = Refusals.made(state);
            int n = x.size(0);
            holds(state + ": " + n + " places", x.at(0, 1, n - 1, n - 1) >= 0 && x.at(0, 1, n, n - 1) == SpunModules.BAD);
            DOC.due(state + ": the size of its dual", x.over(1, 0), n);
            DOC.due(state + ": the size of the quotient by 0", x.rests(1, 0, 0), n);
        }

        DOC.says(13, "Returns an entry of a matrix.");
        for (String state : states()) {
            SpunModules x = Refusals.made(state);
            Hand h = Hand.of(x, 0);
            x.over(1, 0);
            for (int t = 0; t < 2 * h.n * h.n; t++) {
                DOC.due(state + ": of the dual", x.at(1, t / h.n / h.n, t % h.n, t / h.n % h.n), h.m[t / h.n / h.n][t / h.n % h.n][t % h.n]);
            }
            x.over(1, 1);
            holds(state + ": the dual of the dual", same(x, 1, h));
        }

        DOC.says(14, "Multiplies a vector by a matrix.");
        for (String state : states()) {
            Hand h = Laws.module(state);
            SpunModules x = Refusals.made(state);
            for (int v = 0; v < h.numbers(); v += 5) {
                int w = (7 * v + 3) % h.numbers();
                for (int g = 0; g < 2; g++) {
                    int sum = h.plus(v, h.p - 1, w);
                    DOC.due(state + ": a difference", x.moved(0, g, sum), h.plus(x.moved(0, g, v), h.p - 1, x.moved(0, g, w)));
                }
            }
        }
    }

    private static void spins() {
        DOC.says(15, "Returns the dimension of the space spun by a vector.");
        for (String state : states()) {
            Hand h = Laws.module(state);
            for (int v = 1; v < h.numbers(); v += 3) {
                SpunModules x = Refusals.made(state);
                int dim = x.spun(0, v);
                DOC.due(state + ": " + v + " as a module", x.parts(1, 0, v), dim);
                DOC.due(state + ": the quotient for " + v, x.rests(2, 0, v), dim == h.n ? SpunModules.NO : h.n - dim);
                holds(state + ": " + v + " spins what is closed", h.dimension(h.closed(List.of(v))) == dim);
            }
        }

        DOC.says(16, "Returns a basis vector of the space spun by a vector.");
        for (String state : states()) {
            Hand h = Laws.module(state);
            for (int v = 1; v < h.numbers(); v += 4) {
                List<Integer> rows = Laws.rows(state, v);
                TreeSet<Integer> space = h.span(rows);
                DOC.due(state + ": the dimension of all combinations", h.dimension(space), rows.size());
                holds(state + ": " + v + " is in its space", space.contains(v));
                for (int row : rows) {
                    holds(state + ": what " + row + " spins is inside", Laws.subset(h.span(Laws.rows(state, row)), space));
                }
            }
        }
    }

    private static void factors() {
        DOC.says(17, "Checks whether a module is simple.");
        for (String state : states()) {
            SpunModules x = Refusals.made(state);
            int n = x.size(0);
            boolean whole = true;
            for (int v = 1; v < States.power(x.told(4), n); v++) {
                whole &= x.spun(0, v) == n;
            }
            DOC.due(state + ": all vectors spin the whole", x.simple(0), whole ? 1 : 0);
            DOC.due(state + ": one factor", x.simple(0), x.factors(0) == 1 ? 1 : 0);
            DOC.due(state + ": the least space is the whole", x.simple(0), x.least(0) == n ? 1 : 0);
            DOC.due(state + ": the dual is simple", x.simple(0), x.over(1, 0) > 0 ? x.simple(1) : -1);
        }

        DOC.says(19, "Counts the composition factors of a module.");
        for (String state : states()) {
            SpunModules x = Refusals.made(state);
            int sum = 0;
            int count = x.factors(0);
            for (int i = 0; i < count; i++) {
                sum += x.factor(0, i, 0);
            }
            DOC.due(state + ": the sizes of the factors, added", sum, x.size(0));
            DOC.due(state + ": the factor behind the last one", x.factor(0, count, 0), SpunModules.NONE);
            DOC.due(state + ": factors in common with itself", x.common(0, 0), count);
        }

        DOC.says(20, "Returns a property of a factor.");
        for (String state : states()) {
            SpunModules x = Refusals.made(state);
            SpunModules turned = Refusals.made(anotherBasis(state));
            int count = x.factors(0);
            for (int i = 0; i < count; i++) {
                for (int what = 0; what <= 3; what++) {
                    DOC.due(state + ": factor " + i + " in another basis, " + what, turned.factor(0, i, what), x.factor(0, i, what));
                }
                DOC.due(state + ": the size is a multiple", x.factor(0, i, 0) % x.factor(0, i, 2), 0);
            }
        }

        DOC.says(21, "Returns an element of the canonical form of a factor.");
        for (String state : states()) {
            List<String> forms = Laws.forms(Refusals.made(state), 0);
            holds(state + ": in another basis", forms.equals(Laws.forms(Refusals.made(anotherBasis(state)), 0)));
            for (int i = 1; i < forms.size(); i++) {
                holds(state + ": the order of the factors", Laws.order(forms.get(i - 1), forms.get(i)) <= 0);
            }
        }
    }

    private static String anotherBasis(String state) {
        Hand h = Laws.module(state);
        StringBuilder s = new StringBuilder(state);
        for (int t = 0; t < 3 * (h.n - 1); t++) {
            int i = (t * 5 + 1) % h.n;
            int j = (i + 1 + t % (h.n - 1)) % h.n;
            s.append(";").append(Calls.told("turns", 0, i, j, 1 + t % (h.p - 1)));
        }
        return s.toString();
    }

    private static void relations() {
        DOC.says(22, "Counts the factors that two modules have in common: for each type the smaller one of the numbers of factors of this type, "
            + "added.");
        for (int p : FIELDS) {
            for (String state : pairs(p, false)) {
                SpunModules x = Refusals.made(state);
                List<String> left = Laws.forms(x, 1);
                int count = 0;
                for (String form : Laws.forms(x, 0)) {
                    count += left.remove(form) ? 1 : 0;
                }
                DOC.due(state + ": forms in common", x.common(0, 1), count);
                DOC.due(state + ": the other way round", x.common(1, 0), count);
            }
        }

        DOC.says(23, "Returns the dimension of the space of homomorphisms from a module to another one.");
        for (int p : FIELDS) {
            for (String state : pairs(p, false)) {
                SpunModules x = Refusals.made(state + ";over(2, 0);over(3, 1)");
                DOC.due(state + ": between the duals", x.ways(3, 2), x.ways(0, 1));
                DOC.due(state + ": between the duals", x.ways(2, 3), x.ways(1, 0));
                holds(state + ": none without a factor in common", x.common(0, 1) > 0 || x.ways(0, 1) == 0);
                holds(state + ": at least the multiples of 1", x.ways(0, 0) >= 1);
            }
        }

        DOC.says(24, "Returns a layer of a module.");
        for (String state : states()) {
            SpunModules x = Refusals.made(state);
            SpunModules turned = Refusals.made(anotherBasis(state));
            int sum = 0;
            int i = 0;
            while (i < 6 && x.layer(0, i) != SpunModules.NONE) {
                sum += x.layer(0, i);
                DOC.due(state + ": layer " + i + " in another basis", turned.layer(0, i), x.layer(0, i));
                i++;
            }
            DOC.due(state + ": all layers", sum, x.size(0));
            holds(state + ": the least space is in the socle", x.layer(0, 0) >= x.least(0));
        }

        DOC.says(25, "Counts the invariant subspaces of a dimension, the zero space and the whole space included.");
        for (String state : states()) {
            SpunModules x = Refusals.made(state + ";over(1, 0)");
            int n = x.size(0);
            for (int d = 0; d <= n && n <= 4; d++) {
                DOC.due(state + ": the dual has as many of the other dimension", x.spaces(1, n - d), x.spaces(0, d));
            }
            if (n <= 4) {
                DOC.due(state + ": the least dimension", x.spaces(0, x.least(0)) > 0 ? 1 : 0, 1);
            }
        }
    }

    // ---- words

    private static void texts() {
        DOC.says(26, "Appends a byte to the text.");
        for (int c = 0; c < 128; c++) {
            // behind "a", 0 to 127 make a word, a text that ends too early, or a fault at this byte
            int read = c == 97 || c == 98 ? 1 : c == 43 ? -12 : -11;
            DOC.runs("type(97) = 1; type(" + c + ") = 2; told(5) = 2; tells() = " + read,
                "type(0) = 3; tells() = " + (read == -11 ? -11 : -12));
        }

        DOC.says(28, "Reads the text as the word.");
        for (String text : WORDS) {
            SpunModules x = Refusals.made("sets(0, 0, 0, 0, 1);" + States.typed(text));
            DOC.due("the word before, which is a", x.word(0, 0, 0), 1);
            DOC.due(text, x.tells(), text.split("\\+").length);
            DOC.due("the word now, " + text, x.word(0, 0, 0), Laws.value(Hand.of(x, 0), text)[0][0]);
        }

        DOC.says(29, "Returns an entry of the value of the word in a module.");
        for (String state : states()) {
            Hand h = Laws.module(state);
            for (String text : WORDS) {
                SpunModules x = Refusals.made(state + ";" + States.typed(text) + ";tells()");
                int[][] value = Laws.value(h, text);
                for (int t = 0; t < h.n * h.n; t++) {
                    DOC.due(state + ": " + text, x.word(0, t / h.n, t % h.n), value[t / h.n][t % h.n]);
                }
            }
        }
    }

    private static void nulls() {
        DOC.says(30, "Examines the null space of the word in a module, the space of the vectors whose product with its value is 0.");
        for (String state : states()) {
            Hand h = Laws.module(state);
            for (String text : WORDS) {
                SpunModules x = Refusals.made(state + ";" + States.typed(text) + ";tells()");
                int[][] value = Laws.value(h, text);
                List<Integer> zeros = new ArrayList<>();
                for (int v = 0; v < h.numbers(); v++) {
                    if (h.times(v, value) == 0) {
                        zeros.add(v);
                    }
                }
                String what = state + ": " + text;
                DOC.due(what + ", how many vectors", States.power(h.p, x.nulls(0, 0)), zeros.size());
                DOC.due(what + ", the smallest above 0", x.nulls(0, 1), zeros.size() == 1 ? SpunModules.NONE : zeros.get(1));
                DOC.due(what + ", what they spin", x.nulls(0, 2), h.dimension(h.closed(zeros)));
            }
        }
    }

    /** The determinant of (x * unit matrix - value) from all permutations; element i is the coefficient of x^i. */
    private static int[] determinant(int p, int[][] value, int row, int used) {
        int n = value.length;
        int[] sum = new int[n + 1];
        if (row == n) {
            sum[0] = 1;
        }
        for (int column = 0; row < n && column < n; column++) {
            if ((used >> column & 1) == 0) {
                int[] rest = determinant(p, value, row + 1, used | 1 << column);
                // the columns used already that are behind this one
                int sign = Integer.bitCount(used >> column) % 2 == 0 ? 1 : p - 1;
                for (int i = 0; i <= n; i++) {
                    sum[i] = (sum[i] + sign * (p - value[row][column]) * rest[i]) % p;
                    sum[i] = (sum[i] + (row == column && i > 0 ? sign * rest[i - 1] : 0)) % p;
                }
            }
        }
        return sum;
    }

    private static void polynomials() {
        DOC.says(31, "Returns a coefficient of the characteristic polynomial of the word in a module, the determinant of (x * unit matrix - value "
            + "of the word).");
        for (String state : states()) {
            Hand h = Laws.module(state);
            for (String text : WORDS) {
                SpunModules x = Refusals.made(state + ";" + States.typed(text) + ";tells()");
                int[] polynomial = determinant(h.p, Laws.value(h, text), 0, 0);
                for (int i = 0; i <= h.n; i++) {
                    DOC.due(state + ": " + text + ", x^" + i, x.poly(0, i), polynomial[i]);
                }
            }
        }
    }

    // ---- numbers

    private static void numbers() {
        DOC.says(33, "Returns one of several numbers.");
        DOC.runs(States.TWO, "told(0) = 1; told(1) = 1; told(2) = 0; told(3) = 7; told(4) = 2; told(5) = 3");
        DOC.runs(States.THREE, "told(0) = 1; told(1) = 1; told(2) = 0; told(3) = 8; told(4) = 3; told(5) = 3");

        DOC.says(34, "Computes a checksum.");
        for (String state : states()) {
            long digest = Refusals.made(state).digest();
            SpunModules x = Refusals.made(state);
            DOC.due(state + ": the same calls, the same checksum", x.digest(), digest);
            DOC.due(state + ": asked twice", x.digest(), digest);
            holds(state + ": another entry, another checksum", x.sets(0, 1, 0, 0, 1 - Math.min(1, x.at(0, 1, 0, 0))) >= 0 && x.digest() != digest);
        }
    }

    public static void main(String[] args) throws IOException {
        begins();
        sizes();
        draws();
        turns();
        adds();
        times();
        entries();
        spins();
        factors();
        relations();
        texts();
        nulls();
        polynomials();
        numbers();
        DOC.ends(1, 0);
    }
}
