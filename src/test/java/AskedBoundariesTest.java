import java.io.IOException;

/** The boundary cases that promises 12 to 25 name, sentence by sentence. */
public final class AskedBoundariesTest {
    private static final Sentences DOC = new Sentences();
    private static final int BAD = SpunModules.BAD;
    private static final int NO = SpunModules.NO;

    private static void module(int promise, String name, String call) {
        DOC.says(promise, "`" + name + "`: a module, 0 to 3");
        DOC.ranges(States.TWO, call, 0, 3);
        DOC.ranges(States.THREE, call, 0, 3);
    }

    private static void answers(int promise, String sentence, String... lines) {
        DOC.says(promise, sentence);
        DOC.runs(lines);
    }

    private static void bad(int promise, String sentence, String... calls) {
        DOC.says(promise, sentence);
        for (String call : calls) {
            DOC.refuses(States.TWO, call, BAD);
            DOC.refuses(States.THREE, call, BAD);
        }
    }

    private static void places(String call) {
        for (int p = 2; p <= 3; p++) {
            for (int n = 1; n <= States.largest(p); n++) {
                DOC.ranges(States.drawn(p, 0, n, 9), call, 0, n - 1);
            }
        }
    }

    private static void vectors(String call) {
        for (int p = 2; p <= 3; p++) {
            for (int n = 1; n <= States.largest(p); n++) {
                DOC.ranges(States.drawn(p, 0, n, 13), call, 0, States.power(p, n) - 1);
            }
            DOC.ranges(States.chain(p, 0, 4), call, 0, States.power(p, 4) - 1);
            DOC.ranges(States.circle(p, 0, 4), call, 0, States.power(p, 4) - 1);
        }
    }

    private static void size() {
        module(12, "k", "size(?)");
        answers(12, "Returns its size", "size(0) = 1; sizes(0, 6); size(0) = 6; size(3) = 1; sizes(3, 2); size(3) = 2; size(0) = 6",
            "begins(3); size(0) = 1; sizes(3, 5); size(3) = 5");
        bad(12, "errors: BAD", "size(-1)", "size(4)", "size(5)");
    }

    private static void at() {
        module(13, "k", "at(?, 1, 0, 0)");
        DOC.says(13, "`g`: 0 for a, 1 for b");
        DOC.ranges(States.TWO, "at(0, ?, 0, 2)", 0, 1);
        DOC.ranges(States.THREE, "at(0, ?, 1, 0)", 0, 1);
        DOC.runs("sets(0, 0, 0, 0, 1); at(0, 0, 0, 0) = 1; at(0, 1, 0, 0) = 0; at(0, 2, 0, 0) = -2; at(0, -1, 0, 0) = -2");
        DOC.says(13, "`i`: its row");
        places("at(0, 0, ?, 0)");
        places("at(0, 1, ?, 0)");
        DOC.says(13, "`j`: its column");
        places("at(0, 0, 0, ?)");
        places("at(0, 1, 0, ?)");
        answers(13, "Returns the entry", "sizes(0, 6); sets(0, 1, 5, 5, 1); at(0, 1, 5, 5) = 1; at(0, 1, 5, 4) = 0; at(0, 1, 4, 5) = 0",
            "begins(3); sizes(0, 5); sets(0, 0, 4, 0, 2); at(0, 0, 4, 0) = 2; at(0, 0, 0, 4) = 0; at(0, 0, 5, 0) = -2");
        bad(13, "errors: BAD", "at(-1, 0, 0, 0)", "at(4, 0, 0, 0)", "at(0, -1, 0, 0)", "at(0, 2, 0, 0)", "at(0, 0, -1, 0)",
            "at(0, 0, 3, 0)", "at(0, 0, 0, -1)", "at(0, 0, 0, 3)", "at(3, 0, 1, 0)", "at(3, 0, 0, 1)");
    }

    private static void moved() {
        module(14, "k", "moved(?, 1, 1)");
        DOC.says(14, "`g`: 0 for a, 1 for b");
        DOC.ranges(States.TWO, "moved(0, ?, 7)", 0, 1);
        DOC.ranges(States.THREE, "moved(0, ?, 8)", 0, 1);
        DOC.says(14, "`v`: a vector of this module, as a number");
        vectors("moved(0, 0, ?)");
        vectors("moved(0, 1, ?)");
        answers(14, "Returns the product, as a number", States.circle(2, 0, 6), "moved(0, 0, 0) = 0; moved(0, 0, 63) = 63",
            "moved(0, 0, 32) = 1; moved(0, 0, 1) = 2; moved(0, 1, 63) = 0", States.circle(3, 0, 5), "moved(0, 0, 242) = 242",
            "moved(0, 0, 162) = 2; moved(0, 0, 0) = 0; moved(0, 1, 242) = 0");
        bad(14, "errors: BAD", "moved(-1, 0, 0)", "moved(4, 0, 0)", "moved(0, -1, 0)", "moved(0, 2, 0)", "moved(0, 0, -1)",
            "moved(0, 0, 9)", "moved(3, 0, 3)", "moved(4, 2, -1)");
    }

    private static void spun() {
        module(15, "k", "spun(?, 1)");
        DOC.says(15, "`v`: a vector of this module, as a number");
        vectors("spun(0, ?)");
        DOC.says(15, "Returns the dimension, 0 for v = 0");
        for (int p = 2; p <= 3; p++) {
            for (int n = 1; n <= States.largest(p); n++) {
                StringBuilder line = new StringBuilder(States.chain(p, 0, n)).append("; spun(0, 0) = 0");
                for (int i = 0; i < n; i++) {
                    line.append("; spun(0, ").append(States.power(p, i)).append(") = ").append(n - i);
                }
                DOC.runs(line.toString());
                DOC.runs(States.simple(p, 0, n), "spun(0, 0) = 0; spun(0, 1) = " + n, "spun(0, " + (States.power(p, n) - 1) + ") = " + n);
            }
        }
        bad(15, "errors: BAD", "spun(-1, 0)", "spun(4, 0)", "spun(0, -1)", "spun(0, 9)", "spun(3, 3)", "spun(4, 9)");
    }

    private static void row() {
        module(16, "k", "row(?, 1, 0)");
        DOC.says(16, "`v`: a vector of this module, as a number");
        vectors("row(0, ?, 0)");
        vectors("row(0, ?, 1)");
        DOC.says(16, "`i`: the index of the basis vector, from 0");
        DOC.ranges(States.TWO, "row(0, 7, ?)", 0, Integer.MAX_VALUE);
        DOC.ranges(States.THREE, "row(1, 26, ?)", 0, Integer.MAX_VALUE);
        answers(16, "Returns it, as a number", States.chain(2, 0, 6), "row(0, 1, 0) = 1; row(0, 1, 5) = 32; row(0, 63, 0) = 1",
            "row(0, 48, 0) = 16; row(0, 48, 1) = 32; row(0, 32, 0) = 32", States.circle(3, 0, 5), "row(0, 242, 0) = 121",
            "row(0, 1, 4) = 81; row(0, 161, 0) = 163; row(0, 161, 3) = 189; row(0, 161, 4) = -1");
        DOC.says(16, "NONE if there is no such basis vector");
        for (int p = 2; p <= 3; p++) {
            for (int n = 1; n <= States.largest(p); n++) {
                StringBuilder line = new StringBuilder(States.chain(p, 0, n)).append("; row(0, 0, 0) = -1; row(0, 0, 1) = -1");
                for (int i = 0; i < n; i++) {
                    int v = States.power(p, i);
                    line.append("; row(0, ").append(v).append(", ").append(n - i - 1).append(") = ").append(States.power(p, n - 1));
                    line.append("; row(0, ").append(v).append(", ").append(n - i).append(") = -1");
                }
                DOC.runs(line.toString(), "row(0, 1, 2147483647) = -1; told(0) = 0; told(1) = 0; told(2) = 0");
            }
        }
        bad(16, "errors: BAD, also if i is negative", "row(0, 1, -1)", "row(0, 0, -1)", "row(0, 1, -2147483648)", "row(-1, 0, 0)",
            "row(4, 0, 0)", "row(0, -1, 0)", "row(0, 9, 0)", "row(0, 9, 99)", "row(4, 0, 99)", "row(3, 3, 0)");
    }

    private static void simple() {
        module(17, "k", "simple(?)");
        DOC.says(17, "Returns 1 if it is, else 0");
        for (int p = 2; p <= 3; p++) {
            DOC.runs("begins(" + p + ")", "simple(0) = 1; sets(0, 0, 0, 0, 1); simple(0) = 1; sizes(0, 2); simple(0) = 0");
            for (int n = 2; n <= States.largest(p); n++) {
                DOC.runs(States.simple(p, 0, n), "simple(0) = 1; over(1, 0); simple(1) = 1; turns(0, 0, " + (n - 1) + ", 1); simple(0) = 1");
                // only the last place is kept, or only the space of all places but the first
                DOC.runs(States.simple(p, 0, n), "sets(0, 0, " + (n - 1) + ", 0, 0) = 1; simple(0) = 0; over(1, 0); simple(1) = 0");
                DOC.runs(States.chain(p, 0, n), "simple(0) = 0");
                DOC.runs(States.circle(p, 0, n), "simple(0) = 0");
            }
        }
        bad(17, "errors: BAD", "simple(-1)", "simple(4)");
    }

    private static void least() {
        DOC.says(18, "Finds the smallest dimension of an invariant subspace other than the zero space.");
        for (int p = 2; p <= 3; p++) {
            for (int n = 1; n <= States.largest(p); n++) {
                DOC.runs(States.simple(p, 0, n), "least(0) = " + n);
                DOC.runs(States.chain(p, 0, n), "least(0) = 1");
                DOC.runs(States.zero(p, 0, n), "least(0) = 1");
            }
            DOC.runs(States.simple(p, 0, 2), "adds(1, 0, 0) = 4; least(1) = 2; adds(2, 1, 3) = 5; least(2) = 1");
        }
        DOC.runs(States.simple(2, 0, 3), "adds(1, 0, 0) = 6; least(1) = 3; turns(1, 0, 5, 1); turns(1, 4, 1, 1); least(1) = 3");
        DOC.runs(States.simple(3, 0, 3), "sizes(1, 2); sets(1, 0, 0, 1, 1); sets(1, 0, 1, 0, 2); adds(2, 0, 1) = 5; least(2) = 2");
        module(18, "k", "least(?)");
        answers(18, "Returns the dimension", "least(0) = 1; sizes(0, 6); least(0) = 1");
        bad(18, "errors: BAD", "least(-1)", "least(4)");
    }

    private static void factors() {
        module(19, "k", "factors(?)");
        DOC.says(19, "Returns how many there are");
        for (int p = 2; p <= 3; p++) {
            for (int n = 1; n <= States.largest(p); n++) {
                DOC.runs(States.simple(p, 0, n), "factors(0) = 1");
                DOC.runs(States.chain(p, 0, n), "factors(0) = " + n);
                DOC.runs(States.zero(p, 0, n), "factors(0) = " + n);
            }
        }
        bad(19, "errors: BAD", "factors(-1)", "factors(4)");
    }

    /** The field with 4 elements, and its sum with modules of size 1: factors 0 | 1, 1 | 0 | and the one of size 2. */
    private static final String MIXED = "sizes(0, 2); sets(0, 0, 0, 1, 1); sets(0, 0, 1, 0, 1); sets(0, 0, 1, 1, 1); "
        + "sizes(1, 3); sets(1, 1, 0, 0, 1); sets(1, 1, 1, 1, 1); sets(1, 1, 1, 0, 1); adds(2, 0, 1); ";

    private static void factor() {
        module(20, "k", "factor(?, 0, 3)");
        DOC.says(20, "`i`: the number of the factor, from 0");
        DOC.ranges(States.TWO, "factor(0, ?, 0)", 0, Integer.MAX_VALUE);
        DOC.ranges(States.THREE, "factor(1, ?, 3)", 0, Integer.MAX_VALUE);
        DOC.says(20, "`what`: 0 its size; 1 how many factors of module k have its type, itself included; 2 the dimension of the space "
            + "of homomorphisms from it to itself; 3 that from it to module k");
        DOC.ranges(States.TWO, "factor(0, 0, ?)", 0, 3);
        DOC.ranges(States.THREE, "factor(2, 0, ?)", 0, 3);
        DOC.ranges(MIXED, "factor(2, 3, ?)", 0, 3);
        DOC.runs(MIXED, "factors(2) = 4", "factor(2, 0, 0) = 1; factor(2, 0, 1) = 1; factor(2, 0, 2) = 1; factor(2, 0, 3) = 1",
            "factor(2, 1, 0) = 1; factor(2, 1, 1) = 2; factor(2, 1, 2) = 1; factor(2, 1, 3) = 1",
            "factor(2, 2, 0) = 1; factor(2, 2, 1) = 2; factor(2, 2, 2) = 1; factor(2, 2, 3) = 1",
            "factor(2, 3, 0) = 2; factor(2, 3, 1) = 1; factor(2, 3, 2) = 2; factor(2, 3, 3) = 2");
        // the largest numbers: six factors of one type, and the field with 64 elements
        DOC.runs("sizes(0, 6)", "factor(0, 5, 1) = 6; factor(0, 0, 3) = 6; sizes(1, 6)" + companion(1, "110000"),
            "simple(1) = 1; factor(1, 0, 0) = 6; factor(1, 0, 1) = 1; factor(1, 0, 2) = 6; factor(1, 0, 3) = 6");
        // the field with 243 elements
        DOC.runs("begins(3); sizes(1, 5)" + companion(1, "21000"), "simple(1) = 1; factor(1, 0, 2) = 5; factor(1, 0, 3) = 5");
        // a factor that is at the top alone
        DOC.runs("sizes(0, 2); sets(0, 0, 0, 1, 1); sets(0, 1, 0, 0, 1)", "factor(0, 0, 3) = 1; factor(0, 1, 3) = 0; factor(0, 1, 1) = 1");
        answers(20, "Returns it", "factor(0, 0, 0) = 1; factor(0, 0, 1) = 1; factor(0, 0, 2) = 1; factor(0, 0, 3) = 1");
        DOC.says(20, "NONE if there is no such factor");
        for (int p = 2; p <= 3; p++) {
            for (int n = 1; n <= States.largest(p); n++) {
                for (int what = 0; what <= 3; what++) {
                    DOC.allows(States.chain(p, 0, n), "factor(0, " + (n - 1) + ", " + what + ")");
                    DOC.runs(States.chain(p, 0, n), "factor(0, " + n + ", " + what + ") = -1", "factor(0, 2147483647, " + what + ") = -1");
                    DOC.runs(States.simple(p, 0, n), "factor(0, 1, " + what + ") = -1; told(0) = 0; told(1) = 0");
                }
            }
        }
        bad(20, "errors: BAD, also if i is negative", "factor(0, -1, 0)", "factor(0, -2147483648, 0)", "factor(-1, 0, 0)",
            "factor(4, 0, 0)", "factor(0, 0, -1)", "factor(0, 0, 4)", "factor(0, 9, 4)", "factor(0, 9, -1)", "factor(4, 9, 0)");
    }

    /** Sets a of module k to the matrix that sends each place to the next one, and the last to the given elements. */
    private static String companion(int k, String last) {
        StringBuilder s = new StringBuilder();
        int n = last.length();
        for (int i = 0; i < n; i++) {
            s.append(i + 1 < n ? States.sets(k, 0, i, i + 1, 1) : "");
            s.append(States.sets(k, 0, n - 1, i, last.charAt(i) - '0'));
        }
        return s.toString();
    }

    private static void telling() {
        module(21, "k", "telling(?, 0, 1)");
        DOC.says(21, "`i`: the number of the factor, from 0");
        DOC.ranges(States.TWO, "telling(0, ?, 0)", 0, Integer.MAX_VALUE);
        DOC.ranges(States.THREE, "telling(1, ?, 1)", 0, Integer.MAX_VALUE);
        DOC.says(21, "`j`: the index in the sequence, from 0");
        DOC.ranges(States.TWO, "telling(0, 0, ?)", 0, Integer.MAX_VALUE);
        DOC.ranges(States.THREE, "telling(1, 0, ?)", 0, Integer.MAX_VALUE);
        DOC.says(21, "Returns the element");
        DOC.runs(MIXED, "telling(2, 0, 0) = 0; telling(2, 0, 1) = 0; telling(2, 1, 0) = 0; telling(2, 1, 1) = 1; telling(2, 2, 1) = 1",
            "telling(2, 3, 0) = 0; telling(2, 3, 1) = 1; telling(2, 3, 2) = 1; telling(2, 3, 3) = 1; telling(2, 3, 4) = 0",
            "telling(2, 3, 7) = 0");
        for (int p = 2; p <= 3; p++) {
            for (int n = 1; n <= States.largest(p); n++) {
                for (int j = 0; j < 2 * n * n; j++) {
                    DOC.allows(States.simple(p, 0, n), "telling(0, 0, " + j + ")");
                }
            }
        }
        DOC.says(21, "NONE if there is no such factor or index");
        DOC.runs(MIXED, "telling(2, 0, 2) = -1; telling(2, 1, 2) = -1; telling(2, 2, 2) = -1; telling(2, 3, 8) = -1; telling(2, 4, 0) = -1",
            "telling(2, 4, 8) = -1; telling(2, 0, 2147483647) = -1; telling(2, 2147483647, 0) = -1; told(0) = 0; told(1) = 0; told(2) = 0");
        for (int p = 2; p <= 3; p++) {
            for (int n = 1; n <= States.largest(p); n++) {
                DOC.runs(States.simple(p, 0, n), "telling(0, 0, " + 2 * n * n + ") = -1", "telling(0, 1, 0) = -1; told(0) = 0");
                DOC.runs(States.chain(p, 0, n), "telling(0, " + (n - 1) + ", 1) = 0", "telling(0, " + (n - 1) + ", 2) = -1",
                    "telling(0, " + n + ", 0) = -1");
            }
        }
        bad(21, "errors: BAD, also if i or j is negative", "telling(0, -1, 0)", "telling(0, 0, -1)", "telling(0, -1, -1)",
            "telling(0, -2147483648, 0)", "telling(0, 0, -2147483648)", "telling(-1, 0, 0)", "telling(4, 0, 0)", "telling(0, 9, -1)",
            "telling(0, -1, 99)", "telling(4, 9, 99)");
    }

    private static void common() {
        DOC.says(22, "for each type the smaller one of the numbers of factors of this type, added.");
        DOC.runs(MIXED, "common(0, 1) = 0; common(0, 2) = 1; common(2, 0) = 1; common(1, 2) = 3; common(2, 1) = 3; common(2, 2) = 4",
            "common(3, 2) = 1; common(3, 0) = 0; sizes(3, 6); common(3, 2) = 1; common(2, 3) = 1; common(3, 3) = 6");
        DOC.runs("sizes(0, 3); sizes(1, 3); sets(0, 0, 0, 0, 1); sets(1, 0, 0, 0, 1); sets(1, 0, 1, 1, 1)", "common(0, 1) = 2",
            "common(1, 0) = 2; sets(0, 0, 1, 1, 1); sets(0, 0, 2, 2, 1); common(0, 1) = 2; sets(1, 0, 2, 2, 1); common(0, 1) = 3");
        for (int p = 2; p <= 3; p++) {
            for (int n = 1; n <= States.largest(p); n++) {
                for (int m = 1; m <= States.largest(p); m++) {
                    DOC.runs(States.zero(p, 0, n), "sizes(1, " + m + ")", "common(0, 1) = " + Math.min(n, m));
                }
            }
        }
        module(22, "x", "common(?, 1)");
        module(22, "y", "common(1, ?)");
        answers(22, "Returns that sum", "common(0, 0) = 1; common(0, 3) = 1; sets(3, 0, 0, 0, 1); common(0, 3) = 0");
        bad(22, "errors: BAD", "common(-1, 0)", "common(4, 0)", "common(0, -1)", "common(0, 4)", "common(4, 4)");
    }

    private static void ways() {
        module(23, "x", "ways(?, 1)");
        module(23, "y", "ways(1, ?)");
        DOC.says(23, "Returns the dimension");
        DOC.runs("sizes(0, 6); sizes(1, 6); ways(0, 1) = 36; ways(0, 2) = 6; ways(2, 0) = 6; ways(2, 2) = 1; sets(2, 0, 0, 0, 1)",
            "ways(0, 2) = 0; ways(2, 0) = 0; ways(2, 2) = 1; ways(0, 0) = 36");
        for (int p = 2; p <= 3; p++) {
            for (int n = 1; n <= States.largest(p); n++) {
                DOC.runs(States.simple(p, 0, n), "ways(0, 0) = 1");
                DOC.runs(States.chain(p, 0, n), "ways(0, 0) = " + n, "ways(0, 1) = 1; ways(1, 0) = 1");
                for (int m = 1; m <= States.largest(p); m++) {
                    DOC.allows(States.drawn(p, 0, n, 4) + "; sizes(1, " + m + "); draws(1, 5)", "ways(0, 1)");
                    DOC.allows(States.chain(p, 0, n) + States.chain(p, 1, m).replace("begins(" + p + ")", ""), "ways(1, 0)");
                }
            }
        }
        bad(23, "errors: BAD", "ways(-1, 0)", "ways(4, 0)", "ways(0, -1)", "ways(0, 4)", "ways(4, 4)");
    }

    private static void layer() {
        module(24, "k", "layer(?, 0)");
        DOC.says(24, "`i`: the number of the layer, from 0");
        DOC.ranges(States.TWO, "layer(0, ?)", 0, Integer.MAX_VALUE);
        DOC.ranges(States.THREE, "layer(2, ?)", 0, Integer.MAX_VALUE);
        DOC.says(24, "Returns it");
        DOC.runs(States.simple(2, 0, 3), "adds(1, 0, 0); layer(1, 0) = 6; layer(1, 1) = -1; turns(1, 0, 3, 1); layer(1, 0) = 6");
        DOC.runs(MIXED, "layer(1, 0) = 2; layer(1, 1) = 1; layer(1, 2) = -1; layer(2, 0) = 4; layer(2, 1) = 1; layer(2, 2) = -1");
        DOC.runs("sizes(0, 6); sets(0, 0, 5, 0, 1)", "layer(0, 0) = 5; layer(0, 1) = 1; layer(0, 2) = -1");
        // (x - 1)^4, (x - 1)^3: the socle is the last vector alone; (x - 1)^2 (x^2 + x + 1)^2; (x - 1) and a factor of degree 4
        DOC.runs(States.circle(2, 0, 4), "layer(0, 0) = 1; layer(0, 1) = 1; layer(0, 2) = 1; layer(0, 3) = 1; layer(0, 4) = -1");
        DOC.runs(States.circle(3, 0, 3), "layer(0, 0) = 1; layer(0, 1) = 1; layer(0, 2) = 1; layer(0, 3) = -1");
        DOC.runs(States.circle(2, 0, 6), "layer(0, 0) = 3; layer(0, 1) = 3; layer(0, 2) = -1");
        DOC.runs(States.circle(3, 0, 5), "layer(0, 0) = 5; layer(0, 1) = -1");
        // behind a larger module, and behind one over the other field: (x^2 + x + 1)^2, (x^2 + 1)^2, and chains
        DOC.runs("sizes(0, 6); layer(0, 0) = 6; sizes(0, 4)" + companion(0, "1010"), "layer(0, 0) = 2; layer(0, 1) = 2; layer(0, 2) = -1");
        DOC.runs("begins(3); sizes(0, 5); layer(0, 0) = 5; sizes(0, 4)" + companion(0, "2010"), "layer(0, 0) = 2; layer(0, 1) = 2");
        for (int p = 2; p <= 3; p++) {
            for (int n = 1; n <= States.largest(5 - p); n++) {
                DOC.runs(States.zero(p, 0, States.largest(p)), "layer(0, 0) = " + States.largest(p), States.chain(5 - p, 0, n),
                    "layer(0, 0) = 1; layer(0, " + (n - 1) + ") = 1; layer(0, " + n + ") = -1");
            }
        }
        DOC.says(24, "NONE if there is no such layer");
        for (int p = 2; p <= 3; p++) {
            for (int n = 1; n <= States.largest(p); n++) {
                DOC.runs(States.chain(p, 0, n), "layer(0, " + (n - 1) + ") = 1", "layer(0, " + n + ") = -1", "layer(0, 7) = -1",
                    "layer(0, 2147483647) = -1; told(0) = 0; told(1) = 0; told(2) = 0");
                DOC.runs(States.simple(p, 0, n), "layer(0, 0) = " + n, "layer(0, 1) = -1");
            }
        }
        bad(24, "errors: BAD, also if i is negative", "layer(0, -1)", "layer(0, -2147483648)", "layer(-1, 0)", "layer(4, 0)",
            "layer(4, 99)");
    }

    /** The numbers of all subspaces of the dimensions 0 to n of a space with n places. */
    private static final int[][][] ALL = {
        {{1, 1}, {1, 3, 1}, {1, 7, 7, 1}, {1, 15, 35, 15, 1}}, {{1, 1}, {1, 4, 1}, {1, 13, 13, 1}, {1, 40, 130, 40, 1}}};

    private static void counts(String before, int... due) {
        StringBuilder line = new StringBuilder(before);
        for (int d = 0; d < due.length; d++) {
            line.append("; spaces(0, ").append(d).append(") = ").append(due[d]);
        }
        DOC.runs(line.toString());
    }

    private static void spaces() {
        DOC.says(25, "Counts the invariant subspaces of a dimension, the zero space and the whole space included.");
        for (int p = 2; p <= 3; p++) {
            for (int n = 1; n <= 4; n++) {
                for (int d = 0; d <= 6; d++) {
                    int all = d <= n ? ALL[p - 2][n - 1][d] : 0;
                    DOC.runs(States.zero(p, 0, n), "spaces(0, " + d + ") = " + all);
                    DOC.runs(States.chain(p, 0, n), "spaces(0, " + d + ") = " + (d <= n ? 1 : 0));
                    DOC.runs(States.simple(p, 0, n), "spaces(0, " + d + ") = " + (d == 0 || d == n ? 1 : 0));
                }
            }
        }
        counts(States.circle(2, 0, 3), 1, 1, 1, 1, 0, 0, 0);
        counts(States.circle(2, 0, 4), 1, 1, 1, 1, 1, 0, 0);
        // (x - 1) (x + 1) (x^2 + 1)
        counts(States.circle(3, 0, 4), 1, 2, 2, 2, 1, 0, 0);
        // the four types of size 1 over the field with 2 elements, in the basis of the places and in another one
        String types = "sizes(0, 4); sets(0, 0, 0, 0, 1); sets(0, 1, 0, 0, 1); sets(0, 0, 1, 1, 1); sets(0, 1, 2, 2, 1)";
        counts(types, 1, 4, 6, 4, 1, 0, 0);
        counts(types + "; turns(0, 0, 3, 1); turns(0, 3, 1, 1); turns(0, 1, 2, 1); turns(0, 2, 0, 1)", 1, 4, 6, 4, 1, 0, 0);
        // the same type twice, and another one twice: (1, 3, 1) times (1, 3, 1) as polynomials
        counts("sizes(0, 4); sets(0, 0, 0, 0, 1); sets(0, 0, 3, 3, 1)", 1, 6, 11, 6, 1, 0, 0);
        module(25, "k", "spaces(?, 1)");
        DOC.says(25, "`d`: the dimension, 0 to 6");
        DOC.ranges(States.TWO, "spaces(0, ?)", 0, 6);
        DOC.ranges(States.TWO, "spaces(1, ?)", 0, 6);
        DOC.ranges(States.THREE, "spaces(2, ?)", 0, 6);
        DOC.ranges("", "spaces(3, ?)", 0, 6);
        answers(25, "Returns how many there are", "spaces(0, 0) = 1; spaces(0, 1) = 1; spaces(0, 2) = 0; spaces(0, 6) = 0",
            "sizes(0, 4); spaces(0, 0) = 1; spaces(0, 4) = 1; spaces(0, 5) = 0");
        bad(25, "errors: BAD", "spaces(-1, 0)", "spaces(4, 0)", "spaces(0, -1)", "spaces(0, 7)", "spaces(4, 7)");
        DOC.says(25, "NO if the size of the module is above 4");
        for (int p = 2; p <= 3; p++) {
            for (int n = 1; n <= States.largest(p); n++) {
                for (int d = 0; d <= 6; d++) {
                    if (n > 4) {
                        DOC.refuses(States.drawn(p, 1, n, 3), "spaces(1, " + d + ")", NO);
                    } else {
                        DOC.allows(States.drawn(p, 1, n, 3), "spaces(1, " + d + ")");
                    }
                }
                DOC.refuses(States.drawn(p, 1, n, 3), "spaces(1, 7)", BAD);
                DOC.refuses(States.drawn(p, 1, n, 3), "spaces(1, -1)", BAD);
            }
        }
    }

    public static void main(String[] args) throws IOException {
        size();
        at();
        moved();
        spun();
        row();
        simple();
        least();
        factors();
        factor();
        telling();
        common();
        ways();
        layer();
        spaces();
        DOC.ends(12, 25);
    }
}
