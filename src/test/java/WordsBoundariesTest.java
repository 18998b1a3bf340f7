import java.io.IOException;

/** The boundary cases that promises 26 to 31 name, sentence by sentence. */
public final class WordsBoundariesTest {
    private static final Sentences DOC = new Sentences();
    private static final int BAD = SpunModules.BAD;
    private static final int FULL = SpunModules.FULL;
    private static final String TWENTY = "1+".repeat(19) + "ab";

    private static void module(int promise, String call) {
        DOC.says(promise, "`k`: a module, 0 to 3");
        DOC.ranges(States.TWO, call, 0, 3);
        DOC.ranges(States.THREE, call, 0, 3);
    }

    private static void bad(int promise, String... calls) {
        DOC.says(promise, "errors: BAD");
        for (String call : calls) {
            DOC.refuses(States.TWO, call, BAD);
            DOC.refuses(States.THREE, call, BAD);
        }
    }

    private static void type() {
        DOC.says(26, "`c`: the byte, 0 to 127");
        DOC.ranges("", "type(?)", 0, 127);
        DOC.ranges(States.TWO, "type(?)", 0, 127);
        DOC.ranges(States.typed(TWENTY.substring(0, 39)), "type(?)", 0, 127);
        DOC.refuses("", "type(128)", BAD);
        // bytes that would be letters, digits or + if only seven or eight bits of them were looked at
        for (int c : new int[] {97 + 128, 98 + 256, 49 - 256, 43 + 65536, 97 - 128, -97}) {
            DOC.refuses(States.typed("a"), "type(" + c + ")", BAD);
        }

        DOC.says(26, "Returns how many bytes the text has then");
        StringBuilder line = new StringBuilder();
        for (int i = 1; i <= 40; i++) {
            line.append("type(").append(i % 128).append(") = ").append(i).append("; told(5) = ").append(i).append("; ");
        }
        DOC.runs(line.toString(), "type(1) = -4; told(5) = 40; type(1) = -4; told(2) = 2; clear() = 40; type(1) = 1; type(1) = 2");

        bad(26, "type(-1)", "type(128)");
        DOC.refuses(States.typed(TWENTY), "type(-1)", BAD);
        DOC.refuses(States.typed(TWENTY), "type(128)", BAD);

        DOC.says(26, "FULL if it has 40");
        for (int c : new int[] {0, 43, 48, 97, 98, 127}) {
            DOC.allows(States.typed(TWENTY.substring(0, 39)), "type(" + c + ")");
            DOC.refuses(States.typed(TWENTY), "type(" + c + ")", FULL);
            DOC.refuses(States.typed(TWENTY) + ";type(97);type(98)", "type(" + c + ")", FULL);
        }
        // the byte behind a full text is not kept anywhere
        DOC.runs(States.typed("1+".repeat(20)), "tells() = -50; type(97) = -4; tells() = -50; type(97) = -4; tells() = -50; told(5) = 40");
        DOC.runs(States.typed(TWENTY), "type(97) = -4; clear() = 40; type(98) = 1; tells() = 1; told(2) = 1; type(98) = 2");
    }

    private static void clear() {
        DOC.says(27, "Empties the text.");
        DOC.runs(States.typed("a+b"), "clear() = 3; told(5) = 0; tells() = -10; type(98) = 1; tells() = 1; type(43) = 2; tells() = -12");
        DOC.runs(States.typed(TWENTY), "clear() = 40; told(5) = 0; tells() = -10; type(97) = 1; told(5) = 1; tells() = 1; clear() = 1");
        // the word stays, and so do p, the modules and what can be undone
        DOC.runs("sets(0, 1, 0, 0, 1); " + States.typed("b"), "tells() = 1; clear() = 1; word(0, 0, 0) = 1; at(0, 1, 0, 0) = 1",
            "told(3) = 1; back() = 0; at(0, 1, 0, 0) = 0; told(5) = 0");

        DOC.says(27, "Returns how many bytes it had.");
        DOC.runs("clear() = 0; clear() = 0; told(0) = 0; told(1) = 0; told(2) = 0");
        StringBuilder line = new StringBuilder();
        for (int n = 0; n <= 20; n++) {
            line.append(States.typed("a".repeat(n))).append("; clear() = ").append(n).append("; clear() = 0; ");
        }
        DOC.runs(line.toString());
        DOC.runs(States.typed(TWENTY.substring(1)), "clear() = 39; clear() = 0");
        DOC.runs(States.typed(TWENTY), "type(97) = -4; clear() = 40; clear() = 0; told(2) = 1");
    }

    private static void tells() {
        DOC.says(28, "The text stays.");
        DOC.runs(States.typed("b+a"), "tells() = 2; told(5) = 3; tells() = 2; type(98) = 4; tells() = 2; clear() = 4");
        DOC.runs(States.typed("b+"), "tells() = -12; told(5) = 2; tells() = -12; type(98) = 3; tells() = 2; clear() = 3");
        // the word is what was read, not what the text has become since
        DOC.runs("sets(0, 1, 0, 0, 1); " + States.typed("b"), "tells() = 1; type(43); type(98); word(0, 0, 0) = 1; clear(); type(97)",
            "word(0, 0, 0) = 1; tells() = 1; word(0, 0, 0) = 0");

        DOC.says(28, "Returns the number of terms");
        for (int terms = 1; terms <= 20; terms++) {
            DOC.runs(States.typed("1+".repeat(terms - 1) + "2"), "tells() = " + terms, "told(5) = " + (2 * terms - 1));
            DOC.runs(States.typed("a+".repeat(terms - 1) + "b"), "tells() = " + terms);
        }
        DOC.runs(States.typed(TWENTY), "tells() = 20");
        DOC.runs(States.typed("2aaaaaa+2bbbbbb+2ababab+2bababa+2aabbab"), "told(5) = 39; tells() = 5");

        DOC.says(28, "-10 minus the fault if the text has one (then the word stays; this does not count as an error)");
        DOC.runs("tells() = -10; told(0) = 0; told(1) = 0; told(2) = 0; told(3) = 0");
        for (int length = 0; length < 40; length++) {
            DOC.runs(States.typed(TWENTY.substring(0, length)) + (length == 0 ? "" : "; ") + "type(99)", "tells() = " + (-10 - length),
                "told(0) = 0; told(1) = 0; told(2) = 0; told(5) = " + (length + 1));
        }
        for (String fault : new String[] {"", "+", "c", "a+", "a+c", "12", "aaaaaaa", "1+".repeat(20), "b" + (char) 0}) {
            DOC.runs("sets(0, 1, 0, 0, 1); " + States.typed("b"), "tells() = 1; word(0, 0, 0) = 1; clear(); " + States.typed(fault),
                "tells(); told(0) = 0; told(1) = 0; told(2) = 0; word(0, 0, 0) = 1; nulls(0, 0) = 0; poly(0, 0) = 1",
                "sets(0, 0, 0, 0, 1); word(0, 0, 0) = 1; sets(0, 1, 0, 0, 0); word(0, 0, 0) = 0");
            DOC.runs("sets(0, 0, 0, 0, 1); " + States.typed(fault), "tells(); word(0, 0, 0) = 1");
        }
    }

    private static void places(String call) {
        for (int p = 2; p <= 3; p++) {
            for (int n = 1; n <= States.largest(p); n++) {
                DOC.ranges(States.drawn(p, 0, n, 9), call, 0, n - 1);
                DOC.ranges(States.drawn(p, 0, n, 9) + "; " + States.typed("2ab+ba+1") + "; tells()", call, 0, n - 1);
            }
        }
    }

    private static void word() {
        module(29, "word(?, 0, 0)");
        DOC.says(29, "`i`: its row");
        places("word(0, ?, 0)");
        DOC.says(29, "`j`: its column");
        places("word(0, 0, ?)");
        DOC.says(29, "Returns the entry");
        DOC.runs("sizes(0, 6); sets(0, 0, 5, 0, 1); word(0, 5, 0) = 1; word(0, 0, 5) = 0; " + States.typed("1+a"),
            "tells() = 2; word(0, 5, 0) = 1; word(0, 5, 5) = 1; word(0, 0, 0) = 1; word(0, 0, 5) = 0; word(0, 6, 0) = -2");
        // twenty terms are all added, modulo p
        DOC.runs(States.typed("1+".repeat(19) + "1"), "tells() = 20; word(0, 0, 0) = 0; begins(3); word(0, 0, 0) = 2; clear() = 39",
            States.typed("2+".repeat(18) + "2"), "tells() = 19; word(0, 0, 0) = 2; begins(2); word(0, 0, 0) = 0");
        DOC.runs("sets(0, 0, 0, 0, 1); sets(0, 1, 0, 0, 1); " + States.typed(TWENTY), "tells() = 20; word(0, 0, 0) = 0",
            "sets(0, 1, 0, 0, 0); word(0, 0, 0) = 1");
        // six letters act one after another: e0 -> .. -> e5 with five steps, nothing with six
        DOC.runs(States.chain(2, 0, 6) + ";" + States.typed("aaaaa"), "tells() = 1; word(0, 0, 5) = 1; type(97); tells() = 1",
            "word(0, 0, 5) = 0; nulls(0, 0) = 6");
        bad(29, "word(-1, 0, 0)", "word(4, 0, 0)", "word(0, -1, 0)", "word(0, 3, 0)", "word(0, 0, -1)", "word(0, 0, 3)", "word(3, 1, 0)",
            "word(3, 0, 1)");
    }

    private static void nulls() {
        DOC.says(30, "the space of the vectors whose product with its value is 0");
        // row vectors: a sends e0 to e5, so that all places but 0 are in it
        DOC.runs("sizes(0, 6); sets(0, 0, 0, 5, 1); nulls(0, 0) = 5; nulls(0, 1) = 2; over(1, 0); nulls(1, 0) = 5; nulls(1, 1) = 1");
        module(30, "nulls(?, 2)");
        DOC.says(30, "`what`: 0 for its dimension; 1 for the smallest number above 0 that is one of its vectors; 2 for the dimension of "
            + "the smallest invariant subspace that contains it");
        DOC.ranges(States.TWO, "nulls(1, ?)", 0, 2);
        DOC.ranges(States.THREE, "nulls(2, ?)", 0, 2);
        for (int p = 2; p <= 3; p++) {
            for (int n = 1; n <= States.largest(p); n++) {
                int last = States.power(p, n - 1);
                // nothing, the last place alone, and all
                DOC.runs(States.circle(p, 0, n), "nulls(0, 0) = 0; nulls(0, 1) = -1; nulls(0, 2) = 0");
                DOC.runs(States.chain(p, 0, n), "nulls(0, 0) = 1; nulls(0, 1) = " + last + "; nulls(0, 2) = 1");
                DOC.runs(States.zero(p, 0, n), "nulls(0, 0) = " + n + "; nulls(0, 1) = 1; nulls(0, 2) = " + n);
                // the null space of a is the last place, and b sends it on to all others
                StringBuilder back = new StringBuilder(States.chain(p, 0, n));
                for (int i = 1; i < n; i++) {
                    back.append(States.sets(0, 1, i, i - 1, 1));
                }
                DOC.runs(back.toString(), "nulls(0, 0) = 1; nulls(0, 1) = " + last + "; nulls(0, 2) = " + n);
                // all rows of a are the same: the sum of the places has to be 0
                StringBuilder same = new StringBuilder(States.zero(p, 0, n));
                for (int i = 0; i < n; i++) {
                    same.append(States.sets(0, 0, i, 0, 1));
                }
                DOC.runs(same.toString(), "nulls(0, 0) = " + (n - 1), "nulls(0, 1) = " + (n == 1 ? -1 : p == 2 ? 3 : 5));
            }
        }
        // the last vector alone: each row of the value but one is the difference of two places
        DOC.runs("sizes(0, 6)" + differences(2, 6), "nulls(0, 0) = 1; nulls(0, 1) = 63");
        DOC.runs("begins(3); sizes(0, 5)" + differences(3, 5), "nulls(0, 0) = 1; nulls(0, 1) = 121");

        DOC.says(30, "Returns it");
        DOC.runs("nulls(0, 0) = 1; nulls(0, 1) = 1; nulls(0, 2) = 1; sets(0, 0, 0, 0, 1); nulls(0, 0) = 0; nulls(0, 2) = 0");
        DOC.says(30, "NONE for what = 1 if the dimension is 0");
        for (int p = 2; p <= 3; p++) {
            for (int n = 1; n <= States.largest(p); n++) {
                DOC.runs(States.typed("1"), "tells() = 1; " + States.drawn(p, 0, n, 3), "nulls(0, 1) = -1; nulls(0, 0) = 0; nulls(0, 2) = 0",
                    "told(0) = 0; told(1) = 0; told(2) = 0", "clear(); type(48); tells(); nulls(0, 1) = 1");
            }
        }
        bad(30, "nulls(-1, 0)", "nulls(4, 0)", "nulls(0, -1)", "nulls(0, 3)", "nulls(4, 1)", "nulls(4, 3)");
    }

    /** Place j of v * a is then element j of v less element j + 1, and the last one is 0: only equal elements give 0. */
    private static String differences(int p, int n) {
        StringBuilder s = new StringBuilder();
        for (int j = 0; j + 1 < n; j++) {
            s.append(States.sets(0, 0, j, j, 1)).append(States.sets(0, 0, j + 1, j, p - 1));
        }
        return s.toString();
    }

    private static String powers(int p, int k, int... coefficients) {
        StringBuilder line = new StringBuilder();
        for (int i = 0; i < coefficients.length; i++) {
            line.append("poly(").append(k).append(", ").append(i).append(") = ").append(coefficients[i]).append("; ");
        }
        return line + "poly(" + k + ", " + coefficients.length + ") = -2; told(4) = " + p;
    }

    private static void poly() {
        module(31, "poly(?, 1)");
        DOC.says(31, "`i`: the exponent of x, 0 to the size of the module");
        for (int p = 2; p <= 3; p++) {
            for (int n = 1; n <= States.largest(p); n++) {
                DOC.ranges(States.drawn(p, 0, n, 5), "poly(0, ?)", 0, n);
                DOC.ranges(States.simple(p, 1, n), "poly(1, ?)", 0, n);
                DOC.ranges(States.drawn(p, 2, n, 5) + "; " + States.typed("2ab+b+1") + ";tells()", "poly(2, ?)", 0, n);
            }
        }
        DOC.says(31, "Returns the coefficient, 0 to p - 1");
        for (int p = 2; p <= 3; p++) {
            for (int n = 1; n <= States.largest(p); n++) {
                // x^n, and x^n - 1
                DOC.runs(States.chain(p, 0, n), "poly(0, 0) = 0; poly(0, " + n + ") = 1", "poly(0, " + (n - 1) + ") = 0");
                DOC.runs(States.circle(p, 0, n), "poly(0, 0) = " + (p - 1) + "; poly(0, " + n + ") = 1");
                DOC.runs(States.circle(p, 0, n), "poly(0, " + (n + 1) + ") = -2; poly(0, -1) = -2");
            }
            // all entries p - 1, the largest that there are: x^n + n x^(n - 1), for the matrix is of rank 1
            int n = States.largest(p);
            StringBuilder all = new StringBuilder(States.zero(p, 0, n));
            for (int t = 0; t < n * n; t++) {
                all.append(States.sets(0, 0, t / n, t % n, p - 1));
            }
            DOC.runs(all.toString(), "poly(0, " + n + ") = 1; poly(0, " + (n - 1) + ") = " + n % p, "poly(0, 0) = 0; poly(0, 1) = 0");
        }
        // (x - 1)^n for the unit matrix, again and again on one object
        DOC.runs(States.typed("1"), "tells() = 1; sizes(0, 6); sizes(1, 5); sizes(2, 4)", powers(2, 0, 1, 0, 1, 0, 1, 0, 1),
            powers(2, 1, 1, 1, 0, 0, 1, 1), powers(2, 2, 1, 0, 0, 0, 1), powers(2, 1, 1, 1, 0, 0, 1, 1), powers(2, 3, 1, 1),
            "begins(3); sizes(0, 5); sizes(1, 4); sizes(2, 3)", powers(3, 0, 2, 2, 2, 1, 1, 1), powers(3, 1, 1, 2, 0, 2, 1),
            powers(3, 2, 2, 0, 0, 1), powers(3, 0, 2, 2, 2, 1, 1, 1), powers(3, 3, 2, 1));
        bad(31, "poly(-1, 0)", "poly(4, 0)", "poly(0, -1)", "poly(0, 4)", "poly(3, 2)", "poly(4, 7)");
    }

    public static void main(String[] args) throws IOException {
        type();
        clear();
        tells();
        word();
        nulls();
        poly();
        DOC.ends(26, 31);
    }
}
