import java.io.IOException;
import java.util.ArrayList;
import java.util.Arrays;
import java.util.Collections;
import java.util.List;
import java.util.TreeSet;

/** The definitions of the document's description, as laws between the answers of different calls. */
public final class DefinitionsTest {
    private static final Sentences DOC = new Sentences();
    private static final int[] FIELDS = {2, 3};

    private static void says(String sentence) {
        DOC.says(Sentences.DESCRIPTION, sentence);
    }

    private static void holds(String what, boolean so) {
        DOC.due(what, so ? 1 : 0, 1);
    }

    /** Modules of all sizes up to the given ones for p = 2 and for p = 3. */
    private static List<String> states(int two, int three) {
        List<String> list = new ArrayList<>();
        for (int p : FIELDS) {
            for (int n = 1; n <= (p == 2 ? two : three); n++) {
                list.addAll(States.many(p, n));
            }
        }
        return list;
    }

    // ---- field and modules

    private static void matrices() {
        says("and two n by n matrices, matrix 0, which is called a, and matrix 1, called b.");
        for (String state : states(6, 5)) {
            Hand h = Laws.module(state);
            for (int g = 0; g < 2; g++) {
                SpunModules x = Refusals.made(state + ";type(" + (97 + g) + ");tells()");
                for (int t = 0; t < h.n * h.n; t++) {
                    DOC.due(state + ": matrix " + g + " and its letter", x.word(0, t / h.n, t % h.n), h.m[g][t / h.n][t % h.n]);
                }
                DOC.due(state + ": a row more", x.at(0, g, h.n, 0), SpunModules.BAD);
                DOC.due(state + ": a column more", x.at(0, g, 0, h.n), SpunModules.BAD);
            }
        }
    }

    private static void action() {
        says("Matrices act from the right: element j of v * m is the sum over i of (element i of v) * (entry in row i and column j of m).");
        for (String state : states(6, 5)) {
            Hand h = Laws.module(state);
            for (int g = 0; g < 2; g++) {
                SpunModules x = Refusals.made(state);
                for (int v = 0; v < h.numbers(); v++) {
                    DOC.due(state + ": " + v + " times matrix " + g, x.moved(0, g, v), h.times(v, h.m[g]));
                }
            }
        }
    }

    private static void subspaces() {
        says("A subspace is invariant if it contains with each vector v also v * a and v * b. The space spun by v is the smallest "
            + "invariant subspace that contains v.");
        for (String state : states(5, 4)) {
            Hand h = Laws.module(state);
            for (int v = 0; v < h.numbers(); v++) {
                TreeSet<Integer> space = h.span(Laws.rows(state, v));
                for (int w : space) {
                    holds(state + ": the space of " + v + " is invariant", space.contains(h.times(w, h.m[0])) && space.contains(h.times(w, h.m[1])));
                }
                holds(state + ": the space of " + v + " is the smallest one with it", space.equals(h.closed(List.of(v))));
            }
        }

        says("The basis of a subspace is its reduced row echelon form: the first non-zero element of each basis vector is 1, at its pivot; "
            + "there all other basis vectors have 0; the pivots ascend.");
        for (String state : states(5, 4)) {
            Hand h = Laws.module(state);
            for (int v = 0; v < h.numbers(); v++) {
                isReduced(state + ": the basis for " + v, h, Laws.rows(state, v));
            }
        }
    }

    private static void isReduced(String what, Hand h, List<Integer> rows) {
        List<Integer> pivots = Laws.pivots(h, rows);
        for (int i = 0; i < rows.size(); i++) {
            holds(what + ": pivot " + i + " is behind the one before", pivots.get(i) < h.n && (i == 0 || pivots.get(i - 1) < pivots.get(i)));
            for (int j = 0; j < rows.size(); j++) {
                DOC.due(what + ": vector " + j + " at pivot " + i, h.elements(rows.get(j))[pivots.get(i)], i == j ? 1 : 0);
            }
        }
    }

    private static void parts() {
        says("An invariant subspace is a module itself, whose size is its dimension: row i of its matrix a contains the coefficients of "
            + "(basis vector i) * a with respect to this basis; likewise b.");
        for (String state : states(5, 4)) {
            Hand h = Laws.module(state);
            for (int v = 1; v < h.numbers(); v++) {
                List<Integer> rows = Laws.rows(state, v);
                Hand part = Laws.module(state + ";parts(0, 0, " + v + ")");
                DOC.due(state + ": the size of the space of " + v, part.n, rows.size());
                for (int g = 0; g < 2 && part.n == rows.size(); g++) {
                    for (int i = 0; i < part.n; i++) {
                        DOC.due(state + ": row " + i + " in the space of " + v, h.combined(rows, part.m[g][i]), h.times(rows.get(i), h.m[g]));
                    }
                }
            }
        }
    }

    private static void quotients() {
        says("The quotient by an invariant subspace is a module, too: its places are those that are no pivots, in ascending order. For row i "
            + "of its matrix a, take the unit vector of the i-th of these places, multiply it by a, and subtract the vector of the subspace "
            + "that has the same elements at all pivots; the row consists of the elements of the result at these places; likewise b.");
        for (String state : states(5, 4)) {
            Hand h = Laws.module(state);
            for (int v = 0; v < h.numbers(); v++) {
                List<Integer> rows = Laws.rows(state, v);
                if (rows.size() < h.n) {
                    Hand rest = Laws.module(state + ";rests(0, 0, " + v + ")");
                    DOC.due(state + ": the size of the quotient by the space of " + v, rest.n, h.n - rows.size());
                    isQuotient(state + ": the quotient by the space of " + v, h, rows, rest);
                }
            }
        }
    }

    private static void isQuotient(String what, Hand h, List<Integer> rows, Hand rest) {
        List<Integer> places = Laws.otherPlaces(h, rows);
        for (int g = 0; g < 2; g++) {
            for (int i = 0; i < places.size(); i++) {
                int image = h.times(States.power(h.p, places.get(i)), h.m[g]);
                holds(what + ", row " + i, Arrays.equals(rest.m[g][i], Laws.remainder(h, rows, image)));
            }
        }
    }

    // ---- factors

    private static void factors() {
        says("those of another module are the ones of some invariant subspace, other than these two, as a module, and those of the quotient "
            + "by it (up to isomorphism it does not matter which).");
        for (String state : states(5, 4)) {
            Hand h = Laws.module(state);
            List<String> all = Laws.forms(Refusals.made(state), 0);
            for (int v = 1; v < h.numbers(); v++) {
                if (Laws.rows(state, v).size() < h.n) {
                    SpunModules x = Refusals.made(state + ";parts(1, 0, " + v + ");rests(2, 0, " + v + ")");
                    List<String> both = new ArrayList<>(Laws.forms(x, 1));
                    both.addAll(Laws.forms(x, 2));
                    both.sort(Laws::order);
                    holds(state + ": the factors of the space of " + v + " and of its quotient", both.equals(all));
                }
            }
        }
    }

    private static void forms() {
        says("The canonical form of a simple module is computed from each non-zero vector v: A list of vectors begins with v; then for each "
            + "vector of the list, in the order of the list, its product with a and then its product with b is appended, if it is not a linear "
            + "combination of the vectors in the list so far. In the end the list has n vectors. Written with respect to this basis, a and b "
            + "have n * n entries each: row i of a contains the coefficients of (vector i of the list) * a. The sequence of all entries of a, "
            + "row by row, and then those of b is considered; the lexicographically smallest one for all v is the canonical form.");
        int simple = 0;
        for (String state : states(6, 4)) {
            SpunModules x = Refusals.made(state);
            if (x.simple(0) == 1) {
                simple++;
                DOC.due(state + ": a simple module has one factor", x.factors(0), 1);
                holds(state + ": its canonical form", Laws.forms(x, 0).equals(List.of(smallest(Laws.module(state)))));
            }
        }
        holds(simple + " modules of them are simple", simple > 30);

        says("as modules they have the matrices of their canonical forms.");
        for (String state : states(6, 5)) {
            List<String> all = Laws.forms(Refusals.made(state), 0);
            for (int i = 0; i < all.size(); i++) {
                isFactor(state, i, all);
            }
        }
    }

    private static String smallest(Hand h) {
        String best = null;
        for (int v = 1; v < h.numbers(); v++) {
            String sequence = h.sequence(v);
            holds("the list of " + v + " has n vectors in the end", sequence != null);
            best = sequence != null && (best == null || sequence.compareTo(best) < 0) ? sequence : best;
        }
        return best;
    }

    /** Module 3 becomes the form: it is simple, its form is the same, and it has the homomorphisms that factor() tells. */
    private static void isFactor(String state, int i, List<String> all) {
        String form = all.get(i);
        SpunModules x = Refusals.made(state);
        Hand factor = Laws.ofForm(x.told(4), form);
        Refusals.makes(x, factor.sets(3));
        String what = state + ": factor " + i;
        DOC.due(what + " is simple", x.simple(3), 1);
        DOC.due(what + ", its size", x.factor(0, i, 0), x.size(3));
        DOC.due(what + ", homomorphisms to itself", x.factor(0, i, 2), x.ways(3, 3));
        DOC.due(what + ", homomorphisms to the module", x.factor(0, i, 3), x.ways(3, 0));
        DOC.due(what + ", how many have its type", x.factor(0, i, 1), Collections.frequency(all, form));
        DOC.due(what + " is a factor of the module", x.common(0, 3), 1);
        holds(what + " has itself as its form", Laws.forms(x, 3).equals(List.of(form)));
    }

    // ---- homomorphisms and socles

    private static void homomorphisms() {
        says("HOMOMORPHISMS from module x to module y are matrices h with (size of x) rows and (size of y) columns for which (a of x) * h = h * "
            + "(a of y), and likewise with b. They form a vector space.");
        for (int p : FIELDS) {
            for (int n = 1; n <= 3; n++) {
                for (int m = 1; m * n <= (p == 2 ? 9 : 6); m++) {
                    for (String x : States.many(p, n)) {
                        for (String y : States.many(p, m)) {
                            isCounted(Laws.module(x), Laws.module(y), p);
                        }
                    }
                }
            }
        }
    }

    private static void isCounted(Hand x, Hand y, int p) {
        SpunModules both = Refusals.made("begins(" + p + ")" + x.sets(0) + y.sets(1));
        int count = 0;
        int all = States.power(p, x.n * y.n);
        boolean[] found = new boolean[all];
        for (int t = 0; t < all; t++) {
            int[][] h = new int[x.n][y.n];
            for (int e = 0; e < x.n * y.n; e++) {
                h[e / y.n][e % y.n] = t / States.power(p, e) % p;
            }
            found[t] = true;
            for (int g = 0; g < 2; g++) {
                found[t] &= Arrays.deepEquals(Hand.product(p, x.m[g], h), Hand.product(p, h, y.m[g]));
            }
            count += found[t] ? 1 : 0;
        }
        DOC.due("how many homomorphisms there are" + x.sets(0) + y.sets(1), States.power(p, both.ways(0, 1)), count);
        holds("0 is one of them", found[0]);
        for (int t = 0; t < all && count <= 9; t++) {
            for (int u = t; u < all && found[t]; u++) {
                holds("sums of two of them are some, too", !found[u] || found[new Hand(p, x.n * y.n, null).plus(t, 1, u)]);
            }
        }
    }

    private static void socles() {
        says("The socle of a module is the sum of all its simple invariant subspaces. Layer 0 is the dimension of the socle, layer 1 the "
            + "dimension of the socle of the quotient by the socle, and so on, until the quotient is zero.");
        for (String state : states(5, 4)) {
            Hand h = Laws.module(state);
            List<Integer> simple = Laws.simpleVectors(state, h.numbers());
            SpunModules x = Refusals.made(state);
            int socle = h.dimension(h.closed(simple));
            DOC.due(state + ": the dimension of the socle", x.layer(0, 0), socle);
            DOC.due(state + ": what the homomorphisms from the factors tell", x.layer(0, 0), fromFactors(x));
            withoutSocle(state, h, simple);
        }
    }

    /** For each type as many times as homomorphisms from it to the module, over those to itself, say. */
    private static int fromFactors(SpunModules x) {
        int sum = 0;
        int count = x.factors(0);
        for (int i = 0; i < count; i += x.factor(0, i, 1)) {
            sum += x.factor(0, i, 0) * x.factor(0, i, 3) / x.factor(0, i, 2);
        }
        return sum;
    }

    /** The simple spaces are divided out one after another: the layers of the quotient are those behind layer 0. */
    private static void withoutSocle(String state, Hand whole, List<Integer> simple) {
        String now = state;
        Hand h = whole;
        List<Integer> left = new ArrayList<>(simple);
        while (!left.isEmpty()) {
            int v = left.remove(0);
            List<Integer> rows = Laws.rows(now, v);
            if (v != 0 && rows.size() == h.n) {
                DOC.due(state + ": the layer behind the last one", Refusals.made(state).layer(0, 1), SpunModules.NONE);
                return;
            }
            if (v != 0) {
                List<Integer> images = new ArrayList<>();
                now = now + ";rests(0, 0, " + v + ")";
                Hand rest = Laws.module(now);
                for (int w : left) {
                    images.add(rest.number(Laws.remainder(h, rows, w)));
                }
                left = images;
                h = rest;
            }
        }
        for (int i = 0; i <= h.n; i++) {
            DOC.due(state + ": layer " + i + " of the quotient by the socle", Refusals.made(now).layer(0, i), Refusals.made(state).layer(0, i + 1));
        }
    }

    // ---- words

    private static final String TERM = "([0-2][ab]{0,6}|[ab]{1,6})";

    private static boolean isWord(String text) {
        return text.matches(TERM + "(\\+" + TERM + ")*");
    }

    /** The number of terms, or -10 minus the fault: as far as the text could still become a word. */
    private static int read(String text) {
        int good = 0;
        while (good < text.length() && (isWord(text.substring(0, good + 1)) || isWord(text.substring(0, good + 1) + "a"))) {
            good++;
        }
        return isWord(text) ? text.split("\\+").length : -10 - good;
    }

    private static void grammar() {
        says("There is a text of up to 40 bytes, from which a word is read: word = term { \"+\" term } term = digit { letter } | letter { letter }");
        String signs = "012ab+c3";
        for (String start : new String[] {"", "ababa", "2babab", "b+0aabbaa"}) {
            for (int t = 0; t < 4096; t++) {
                StringBuilder text = new StringBuilder(start);
                for (int i = 0; i < 4; i++) {
                    text.append(signs.charAt((t >> (3 * i)) & 7));
                }
                // all beginnings of it, while it is typed
                SpunModules x = new SpunModules();
                for (int i = 0; i < text.length(); i++) {
                    x.type(text.charAt(i));
                    if (i >= start.length()) {
                        DOC.due("tells() of " + text.substring(0, i + 1), x.tells(), read(text.substring(0, i + 1)));
                    }
                }
            }
        }
    }

    private static void values() {
        says("The value of a word in a module is a matrix, the sum of its terms; a term is its digit (1 if there is none), modulo p, times the "
            + "product of the matrices of its letters from left to right (the unit matrix if there are none).");
        for (String state : states(6, 5)) {
            Hand h = Laws.module(state);
            for (String text : new String[] {"1", "2", "0ab", "ab", "ba", "2aab", "abbaba+2bb", "1+2a+b+2ab", "2+2+2b+aaaaaa+0+bab"}) {
                SpunModules x = Refusals.made(state + ";" + States.typed(text) + ";tells()");
                int[][] value = Laws.value(h, text);
                for (int t = 0; t < h.n * h.n; t++) {
                    DOC.due(state + ": " + text, x.word(0, t / h.n, t % h.n), value[t / h.n][t % h.n]);
                }
            }
        }
    }

    // ---- errors and changes

    /** A call with arguments from -1 to 5, so that some are out of their ranges. */
    private static String drawnCall(long[] seed) {
        String[] names = {"begins/1", "sizes/2", "sets/5", "draws/2", "turns/4", "adds/3", "times/3", "over/2", "parts/3", "rests/3", "size/1",
            "at/4", "moved/3", "spun/2", "row/3", "simple/1", "least/1", "factors/1", "factor/3", "telling/3", "common/2", "ways/2", "layer/2",
            "spaces/2", "type/1", "type/1", "type/1", "type/1", "clear/0", "tells/0", "word/3", "nulls/2", "poly/2", "back/0", "told/1"};
        String name = names[next(seed, names.length)];
        int[] a = new int[name.charAt(name.length() - 1) - '0'];
        for (int i = 0; i < a.length; i++) {
            a[i] = next(seed, 7) - 1;
        }
        return Calls.told(name.substring(0, name.indexOf('/')), a);
    }

    private static int next(long[] seed, int bound) {
        seed[0] = seed[0] * 6364136223846793005L + 1442695040888963407L;
        return (int) ((seed[0] >>> 33) % bound);
    }

    private static void errors() {
        says("A method reports an error by returning one of the following codes.");
        for (int run = 0; run < 40; run++) {
            long[] seed = {run};
            SpunModules x = run % 2 == 0 ? new SpunModules() : Refusals.made(States.typed("a".repeat(40)));
            int[] errors = new int[3];
            for (int i = 0; i < 400; i++) {
                String call = drawnCall(seed);
                long answer = Calls.make(x, call);
                boolean error = answer <= SpunModules.BAD && answer >= SpunModules.FULL;
                holds(call + " answers " + answer, error || answer >= SpunModules.NONE || call.equals("tells()") && answer <= -10);
                if (error) {
                    errors[(int) (-2 - answer)]++;
                }
            }
            for (int what = 0; what < 3; what++) {
                DOC.due("told(" + what + ") behind run " + run, x.told(what), errors[what]);
            }
        }

        says("A call that returns an error changes nothing but the number of errors, which told() returns.");
        for (int run = 0; run < 30; run++) {
            long[] seed = {run + 1000};
            String before = States.of(2 + run % 2);
            for (int i = 0; i < 20; i++) {
                String call = drawnCall(seed);
                long answer = Calls.make(Refusals.made(before), call);
                if (answer <= SpunModules.BAD && answer >= SpunModules.FULL) {
                    DOC.refuses(before, call, (int) answer);
                } else {
                    before = before + ";" + call;
                }
            }
        }
    }

    private static void undo() {
        says("can be undone; this concerns p and all modules, not the text, the word and the number of errors.");
        for (int run = 0; run < 30; run++) {
            long[] seed = {run + 2000};
            String before = States.of(2 + run % 2);
            List<Long> states = new ArrayList<>();
            for (int i = 0; i < 60; i++) {
                String call = drawnCall(seed);
                int kept = Refusals.made(before).told(3);
                SpunModules x = Refusals.made(before);
                long answer = Calls.make(x, call);
                long old = modules(before);
                if (CHANGES.contains(call.substring(0, call.indexOf('('))) && answer >= 0) {
                    states.add(old);
                    DOC.due(before + ";" + call + " can be undone", x.told(3), Math.min(kept + 1, 8));
                } else if (call.equals("back()") && !states.isEmpty() && kept > 0) {
                    DOC.due(before + ";back() restores p and all modules", modules(before + ";back()"), states.remove(states.size() - 1));
                    DOC.due(before + ";back() leaves the text's length", x.told(5), Refusals.made(before).told(5));
                    DOC.due(before + ";back() leaves the text", x.tells(), Refusals.made(before).tells());
                } else if (!call.equals("back()")) {
                    DOC.due(before + ";" + call + " changes no module", modules(before + ";" + call), old);
                    DOC.due(before + ";" + call + " is no change", x.told(3), kept);
                }
                before = before + ";" + call;
            }
        }
    }

    private static final List<String> CHANGES =
        List.of("begins", "sizes", "sets", "draws", "turns", "adds", "times", "over", "parts", "rests");

    /** A checksum of p and all modules behind the calls. */
    private static long modules(String before) {
        SpunModules x = Refusals.made(before);
        long h = x.told(4);
        for (int k = 0; k < 4; k++) {
            h = 31 * h + Arrays.deepHashCode(Hand.of(x, k).m);
        }
        return h;
    }

    public static void main(String[] args) throws IOException {
        matrices();
        action();
        subspaces();
        parts();
        quotients();
        factors();
        forms();
        homomorphisms();
        socles();
        grammar();
        values();
        errors();
        undo();
        DOC.ends(1, 0);
    }
}
