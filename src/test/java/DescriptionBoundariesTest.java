import java.io.IOException;

/** The boundary cases that the document's description names, sentence by sentence. */
public final class DescriptionBoundariesTest {
    private static final Sentences DOC = new Sentences();
    private static final int BAD = SpunModules.BAD;
    private static final int NO = SpunModules.NO;
    private static final int FULL = SpunModules.FULL;

    private static void says(String sentence) {
        DOC.says(Sentences.DESCRIPTION, sentence);
    }

    // ---- the life of an object

    private static void life(String call, int times, String last, long answer) {
        SpunModules x = new SpunModules();
        for (int i = 0; i < times; i++) {
            Calls.make(x, call);
        }
        DOC.due(times + " times " + call + ", then " + last, Calls.make(x, last), answer);
    }

    private static void lives() {
        says("An object is used for at most 512 calls after it has been made");
        life("size(4)", 511, "told(0)", 511);
        life("parts(0, 0, 0)", 511, "told(1)", 511);
        life("type(97)", 511, "told(2)", 471);
        life("sizes(0, 6)", 511, "back()", 7);
        life("told(6)", 511, "told(0)", 511);
        life("back()", 511, "told(1)", 511);
        SpunModules x = new SpunModules();
        Model model = new Model();
        String all = States.drawn(2, 0, 6, 8) + ";turns(0, 5, 0, 1);sizes(1, 2);draws(1, 3);adds(2, 1, 1);times(3, 1, 1);"
            + "over(3, 3);parts(2, 2, 9);rests(2, 2, 0);size(0);at(0, 1, 5, 5);moved(0, 0, 63);spun(0, 63);row(0, 63, 5);"
            + "simple(0);least(0);factors(0);factor(0, 0, 3);telling(0, 0, 71);common(0, 1);ways(0, 0);layer(0, 0);"
            + "spaces(3, 2);type(98);tells();clear();word(0, 5, 5);nulls(0, 2);poly(0, 6);back();told(3);digest()";
        String[] calls = all.split(";");
        for (int i = 0; i < 512; i++) {
            String call = i == 511 ? "digest()" : calls[i % calls.length];
            DOC.due("call " + (i + 1) + ", " + call, Calls.make(x, call), Calls.make(model, call));
        }
    }

    // ---- field and modules

    private static void field() {
        says("p is 2 or 3, 2 at first");
        DOC.runs("told(4) = 2; sets(0, 0, 0, 0, 2) = -2; sets(0, 0, 0, 0, 1) = 0; begins(3) = 3; told(4) = 3",
            "sets(0, 0, 0, 0, 2) = 0; begins(2) = 2; told(4) = 2; sets(0, 0, 0, 0, 2) = -2");
        DOC.refuses(States.TWO, "begins(1)", BAD);
        DOC.refuses(States.THREE, "begins(4)", BAD);

        says("elements of the field are 0 to p - 1, with arithmetic modulo p");
        for (int p = 2; p <= 3; p++) {
            for (int t = 0; t < States.power(p, 4); t++) {
                int c = t % p;
                int d = t / p % p;
                int e = t / p / p % p;
                int f = t / p / p / p;
                DOC.runs(States.zero(p, 0, 2) + States.sets(0, 1, 0, 1, e) + States.sets(0, 1, 1, 1, f),
                    "moved(0, 1, " + (c + p * d) + ") = " + p * ((c * e + d * f) % p));
            }
            DOC.ranges(States.zero(p, 0, 2), "sets(0, 1, 1, 1, ?)", 0, p - 1);
        }

        says("There are four modules, 0 to 3");
        DOC.runs("sizes(0, 2); sizes(1, 3); sizes(2, 4); sizes(3, 5)", "size(-1) = -2; size(0) = 2; size(1) = 3",
            "size(2) = 4; size(3) = 5; size(4) = -2", "sets(3, 1, 4, 4, 1) = 0; at(0, 1, 1, 1) = 0; at(3, 1, 4, 4) = 1",
            "at(1, 1, 2, 2) = 0; at(2, 1, 3, 3) = 0");
    }

    private static void modules() {
        says("A module has a size n (1 to 6 if p is 2, 1 to 5 if p is 3)");
        for (int k = 0; k < 4; k++) {
            DOC.ranges(States.TWO, "sizes(" + k + ", ?)", 1, 6);
            DOC.ranges(States.THREE, "sizes(" + k + ", ?)", 1, 5);
        }

        says("At first all sizes are 1 and all entries 0");
        for (int k = 0; k < 4; k++) {
            DOC.runs("size(" + k + ") = 1", "at(" + k + ", 0, 0, 0) = 0", "at(" + k + ", 1, 0, 0) = 0",
                "at(" + k + ", 0, 0, 1) = -2", "at(" + k + ", 0, 1, 0) = -2", "moved(" + k + ", 0, 1) = 0",
                "moved(" + k + ", 0, 2) = -2");
        }

        says("Rows, columns and places of vectors are numbered from 0");
        for (int p = 2; p <= 3; p++) {
            for (int n = 1; n <= States.largest(p); n++) {
                String last = n - 1 + ", " + (n - 1);
                DOC.runs(States.zero(p, 0, n), "sets(0, 0, 0, 0, 1) = 0; at(0, 0, 0, 0) = 1", "sets(0, 1, " + last + ", 1) = 0",
                    "at(0, 1, " + last + ") = 1", "at(0, 0, " + n + ", 0) = -2", "at(0, 0, 0, " + n + ") = -2",
                    "at(0, 0, -1, 0) = -2; at(0, 0, 0, -1) = -2", "moved(0, 0, 1) = 1",
                    "moved(0, 1, " + States.power(p, n - 1) + ") = " + States.power(p, n - 1));
            }
        }
    }

    private static void vectors() {
        says("A vector of a module is a row of n elements, which is given as a number: the sum of element i * p^i");
        for (int p = 2; p <= 3; p++) {
            for (int n = 1; n <= States.largest(p); n++) {
                StringBuilder unit = new StringBuilder(States.circle(p, 0, n));
                for (int i = 0; i < n; i++) {
                    unit.append(States.sets(0, 1, i, i, 1));
                }
                int numbers = States.power(p, n);
                unit.append("; moved(0, 1, -1) = -2; moved(0, 1, ").append(numbers).append(") = -2");
                for (int v = 0; v < numbers; v++) {
                    unit.append("; moved(0, 1, ").append(v).append(") = ").append(v);
                }
                for (int i = 0; i < n; i++) {
                    unit.append("; moved(0, 0, ").append(States.power(p, i)).append(") = ").append(States.power(p, (i + 1) % n));
                }
                DOC.runs(unit.toString());
            }
        }

        says("element j of v * m is the sum over i of (element i of v) * (entry in row i and column j of m)");
        DOC.runs("sizes(0, 6); sets(0, 0, 5, 0, 1); sets(0, 1, 0, 5, 1)", "moved(0, 0, 32) = 1; moved(0, 0, 1) = 0",
            "moved(0, 1, 1) = 32; moved(0, 1, 32) = 0; moved(0, 0, 63) = 1; moved(0, 1, 63) = 32");
        DOC.runs("begins(3); sizes(0, 5); sets(0, 0, 4, 0, 2); sets(0, 1, 0, 4, 2)", "moved(0, 0, 81) = 2; moved(0, 0, 162) = 1",
            "moved(0, 1, 1) = 162; moved(0, 1, 2) = 81; moved(0, 1, 81) = 0; moved(0, 0, 242) = 1");
    }

    private static void subspaces() {
        says("The space spun by v is the smallest invariant subspace that contains v");
        for (int p = 2; p <= 3; p++) {
            for (int n = 1; n <= States.largest(p); n++) {
                DOC.runs(States.chain(p, 0, n), "spun(0, 0) = 0", "spun(0, 1) = " + n, "spun(0, " + States.power(p, n - 1) + ") = 1",
                    "spun(0, " + (States.power(p, n) - 1) + ") = " + n);
                DOC.runs(States.zero(p, 0, n), "spun(0, 0) = 0", "spun(0, " + (States.power(p, n) - 1) + ") = 1");
            }
        }

        says("the first non-zero element of each basis vector is 1, at its pivot; there all other basis vectors have 0; "
            + "the pivots ascend");
        DOC.runs("begins(3); sizes(0, 5)", "row(0, 2, 0) = 1; row(0, 162, 0) = 81; row(0, 242, 0) = 121; row(0, 121, 0) = 121");
        DOC.runs(States.circle(2, 0, 3), "row(0, 3, 0) = 5; row(0, 3, 1) = 6; row(0, 3, 2) = -1; row(0, 7, 0) = 7");
        DOC.runs(States.circle(3, 0, 3), "row(0, 7, 0) = 19; row(0, 7, 1) = 21; row(0, 7, 2) = -1; row(0, 26, 0) = 13");
        for (int p = 2; p <= 3; p++) {
            for (int n = 1; n <= States.largest(p); n++) {
                StringBuilder line = new StringBuilder(States.simple(p, 0, n));
                for (int i = 0; i < n; i++) {
                    line.append("; row(0, ").append(States.power(p, n) - 1).append(", ").append(i).append(") = ")
                        .append(States.power(p, i));
                }
                DOC.runs(line.toString(), "row(0, 1, " + n + ") = -1");
            }
        }

        says("An invariant subspace is a module itself, whose size is its dimension");
        DOC.runs(States.chain(2, 0, 6), "parts(1, 0, 32) = 1; size(1) = 1; parts(1, 0, 16) = 2; size(1) = 2",
            "parts(1, 0, 63) = 6; size(1) = 6; at(1, 0, 4, 5) = 1; at(1, 0, 5, 5) = 0");
    }

    /** The diagonals tell the places apart: place 0 has b, place 1 has a, place 2 has both. */
    private static final String DIAGONAL =
        "sizes(0, 3); sets(0, 1, 0, 0, 1); sets(0, 0, 1, 1, 1); sets(0, 0, 2, 2, 1); sets(0, 1, 2, 2, 1)";

    private static void quotients() {
        says("its places are those that are no pivots, in ascending order");
        DOC.runs(DIAGONAL, "rests(1, 0, 1) = 2; at(1, 0, 0, 0) = 1; at(1, 1, 0, 0) = 0; at(1, 0, 1, 1) = 1; at(1, 1, 1, 1) = 1");
        DOC.runs(DIAGONAL, "rests(1, 0, 2) = 2; at(1, 0, 0, 0) = 0; at(1, 1, 0, 0) = 1; at(1, 0, 1, 1) = 1; at(1, 1, 1, 1) = 1");
        DOC.runs(DIAGONAL, "rests(1, 0, 4) = 2; at(1, 0, 0, 0) = 0; at(1, 1, 0, 0) = 1; at(1, 0, 1, 1) = 1; at(1, 1, 1, 1) = 0");
        DOC.runs(DIAGONAL, "rests(1, 0, 3) = 1; at(1, 0, 0, 0) = 1; at(1, 1, 0, 0) = 1");
        DOC.runs(DIAGONAL, "rests(1, 0, 0) = 3; at(1, 1, 0, 0) = 1; at(1, 0, 1, 1) = 1; at(1, 0, 2, 2) = 1; at(1, 1, 2, 2) = 1");

        says("subtract the vector of the subspace that has the same elements at all pivots");
        // e0 + .. + e5 under the circle: unit vector 5 goes to e0, which is minus e1 .. e5 modulo the sum of all
        DOC.runs(States.circle(2, 0, 6), "rests(1, 0, 63) = 5; at(1, 0, 4, 0) = 1; at(1, 0, 4, 4) = 1; at(1, 0, 0, 1) = 1");
        DOC.runs(States.circle(3, 0, 5), "rests(1, 0, 242) = 4; at(1, 0, 3, 0) = 2; at(1, 0, 3, 3) = 2; at(1, 0, 0, 1) = 1");
    }

    // ---- factors, homomorphisms, socles

    private static void simples() {
        says("A module is simple if its only invariant subspaces are the zero space and the whole space");
        for (int p = 2; p <= 3; p++) {
            for (int entry = 0; entry < p; entry++) {
                DOC.runs("begins(" + p + ")", "sets(0, 0, 0, 0, " + entry + ")", "simple(0) = 1");
            }
            for (int n = 2; n <= States.largest(p); n++) {
                // without b the sum of all places is kept by a; without a the last place is kept by b
                DOC.runs(States.simple(p, 0, n), "simple(0) = 1; sets(0, 1, 0, 0, 0) = 1; simple(0) = 0");
                DOC.runs(States.simple(p, 0, n), "sets(0, 0, " + (n - 1) + ", 0, 0) = 1; simple(0) = 0");
            }
        }

        says("The composition factors of a simple module are itself");
        for (int p = 2; p <= 3; p++) {
            for (int n = 1; n <= States.largest(p); n++) {
                DOC.runs(States.simple(p, 0, n), "factors(0) = 1; factor(0, 0, 0) = " + n + "; factor(0, 0, 1) = 1",
                    "factor(0, 1, 0) = -1; common(0, 0) = 1");
            }
        }
    }

    private static void isForm(int p, int n, int seed, String form) {
        StringBuilder line = new StringBuilder(States.drawn(p, 0, n, seed)).append("; simple(0) = 1");
        for (int j = 0; j < form.length(); j++) {
            line.append("; telling(0, 0, ").append(j).append(") = ").append(form.charAt(j));
        }
        DOC.runs(line.toString(), "telling(0, 0, " + form.length() + ") = -1");
    }

    private static void forms() {
        says("The canonical form of a simple module is computed from each non-zero vector v");
        // modules whose smallest sequence comes from vector 1 alone (and its multiples)
        isForm(2, 2, 0, "00010111");
        isForm(2, 3, 20, "000001111010100101");
        isForm(2, 4, 67, "00000010000111010100001010100010");
        isForm(2, 5, 189, "00000001000001010101110000100011000000010110111100");
        isForm(2, 6, 67, "000000001000000010000001100010101110010000000100010100100011010111000001");
        isForm(3, 2, 0, "00110111");
        isForm(3, 3, 13, "010001220000122020");
        isForm(3, 4, 14, "00000010000102120100111001101002");
        isForm(3, 5, 150, "00000001000000110022020100100000010221011102211122");
        // from the unit vector of the last place alone
        isForm(2, 2, 2, "01101011");
        isForm(2, 3, 1, "010001111001100011");
        isForm(2, 4, 11, "01000001011110100010100011010000");
        isForm(2, 5, 32, "00000001000001000001101110100000000100001111001100");
        isForm(2, 6, 8, "000000001000110100101100000001011110010000000100000010010010001100100000");
        isForm(3, 2, 5, "01101121");
        isForm(3, 3, 1, "000001120010111022");
        isForm(3, 4, 0, "01000001001111200010201010200120");
        isForm(3, 5, 372, "00000001000012011212121100100000010000012022120002");
        // from the last vector alone
        isForm(2, 2, 12, "00100111");
        isForm(2, 3, 13, "010001100001011100");
        isForm(2, 4, 29, "00000010110011110100000100110001");
        isForm(2, 5, 39, "01000000100000100111110010010011000100000010101100");
        isForm(2, 6, 123, "010000000100000001000010100011001101001000000010010100011110010010001101");
        isForm(3, 2, 8, "00220122");
        isForm(3, 3, 61, "010001122010100002");
        isForm(3, 4, 15, "01000001001110220010122001001102");
        isForm(3, 5, 149, "01000000100000111020001000010001100102122002201112");

        says("is appended, if it is not a linear combination of the vectors in the list so far");
        DOC.runs("begins(3); sets(0, 0, 0, 0, 2); sets(0, 1, 0, 0, 1)", "telling(0, 0, 0) = 2; telling(0, 0, 1) = 1");
        DOC.runs("begins(3)", "telling(0, 0, 0) = 0; telling(0, 0, 1) = 0; telling(0, 0, 2) = -1");
        // a is 0: all vectors of the list but the first come from b, which is x^2 + x + 1
        DOC.runs("sizes(0, 2); sets(0, 1, 0, 1, 1); sets(0, 1, 1, 0, 1); sets(0, 1, 1, 1, 1)",
            "telling(0, 0, 0) = 0; telling(0, 0, 3) = 0; telling(0, 0, 4) = 0; telling(0, 0, 5) = 1; telling(0, 0, 6) = 1",
            "telling(0, 0, 7) = 1; telling(0, 0, 8) = -1");

        says("In the end the list has n vectors");
        for (int p = 2; p <= 3; p++) {
            for (int n = 1; n <= States.largest(p); n++) {
                DOC.allows(States.simple(p, 0, n), "telling(0, 0, " + (2 * n * n - 1) + ")");
                DOC.runs(States.simple(p, 0, n), "telling(0, 0, " + 2 * n * n + ") = -1");
            }
        }
    }

    private static void order() {
        says("Two modules of one size and one canonical form have the same type");
        DOC.runs(States.simple(2, 0, 3), "over(1, 0); turns(1, 0, 2, 1); adds(2, 0, 1) = 6; factor(2, 0, 1) = 2",
            "factor(2, 1, 1) = 2; factor(2, 2, 1) = -1; common(0, 1) = 1; sets(1, 1, 0, 0, 0); common(0, 1) = 0");

        says("Factors are numbered from 0, in ascending order of their sizes, and for one size in lexicographical order of "
            + "their canonical forms");
        // the four types of size 1 in descending order, and then a factor of size 2 in front of them
        DOC.runs("sizes(0, 2); sets(0, 0, 0, 0, 1); sets(0, 1, 0, 0, 1); sets(0, 0, 1, 1, 1)",
            "sizes(1, 2); sets(1, 1, 0, 0, 1); adds(2, 0, 1) = 4; factors(2) = 4",
            "telling(2, 0, 0) = 0; telling(2, 0, 1) = 0; telling(2, 1, 0) = 0; telling(2, 1, 1) = 1",
            "telling(2, 2, 0) = 1; telling(2, 2, 1) = 0; telling(2, 3, 0) = 1; telling(2, 3, 1) = 1",
            "sizes(3, 2); sets(3, 0, 0, 1, 1); sets(3, 0, 1, 0, 1); sets(3, 0, 1, 1, 1); adds(3, 3, 2) = 6; factors(3) = 5",
            "factor(3, 0, 0) = 1; factor(3, 3, 0) = 1; factor(3, 4, 0) = 2; factor(3, 5, 0) = -1; telling(3, 4, 3) = 1");
        DOC.runs("begins(3); sizes(0, 3); sets(0, 0, 0, 0, 2); sets(0, 1, 0, 0, 2); sets(0, 0, 1, 1, 2); sets(0, 1, 1, 1, 1)",
            "sets(0, 0, 2, 2, 1); sizes(1, 2); sets(1, 1, 0, 0, 2); adds(2, 0, 1) = 5; factors(2) = 5",
            "telling(2, 0, 0) = 0; telling(2, 0, 1) = 0; telling(2, 1, 0) = 0; telling(2, 1, 1) = 2; telling(2, 2, 0) = 1",
            "telling(2, 3, 0) = 2; telling(2, 3, 1) = 1; telling(2, 4, 0) = 2; telling(2, 4, 1) = 2; telling(2, 5, 0) = -1");
    }

    private static void homomorphisms() {
        says("are matrices h with (size of x) rows and (size of y) columns");
        for (int p = 2; p <= 3; p++) {
            for (int n = 1; n <= States.largest(p); n++) {
                for (int m = 1; m <= States.largest(p); m++) {
                    DOC.runs(States.zero(p, 0, n), "sizes(1, " + m + ")", "ways(0, 1) = " + n * m, "ways(1, 0) = " + n * m);
                    // b is 1 in the one and 0 in the other: there is h = 0 alone
                    StringBuilder unit = new StringBuilder(States.zero(p, 0, n)).append("; sizes(1, ").append(m).append(")");
                    for (int i = 0; i < m; i++) {
                        unit.append(States.sets(1, 1, i, i, 1));
                    }
                    DOC.runs(unit.toString(), "ways(0, 1) = 0; ways(1, 0) = 0; ways(1, 1) = " + m * m);
                }
            }
        }
    }

    private static void socles() {
        says("Layer 0 is the dimension of the socle, layer 1 the dimension of the socle of the quotient by the socle, and "
            + "so on, until the quotient is zero");
        for (int p = 2; p <= 3; p++) {
            for (int n = 1; n <= States.largest(p); n++) {
                StringBuilder chain = new StringBuilder(States.chain(p, 0, n));
                for (int i = 0; i < n; i++) {
                    chain.append("; layer(0, ").append(i).append(") = 1");
                }
                DOC.runs(chain.toString(), "layer(0, " + n + ") = -1", "layer(0, 2147483647) = -1");
                DOC.runs(States.zero(p, 0, n), "layer(0, 0) = " + n, "layer(0, 1) = -1");
                DOC.runs(States.simple(p, 0, n), "layer(0, 0) = " + n, "layer(0, 1) = -1");
            }
        }
    }

    // ---- words

    private static void text() {
        says("There is a text of up to 40 bytes, from which a word is read");
        String ones = "1+".repeat(19);
        DOC.runs(States.typed(ones + "ab"), "told(5) = 40; tells() = 20; type(97) = -4; told(5) = 40; tells() = 20");
        DOC.runs(States.typed(ones + "a"), "told(5) = 39; type(98) = 40; type(98) = -4; tells() = 20");
    }

    private static boolean isStart(String prefix) {
        return prefix.isEmpty() || prefix.endsWith("+");
    }

    /** All bytes at each kind of place: what is not allowed there is the fault, whatever comes behind. */
    private static void bytes() {
        says("The fault of a text is the index of the first byte that is not allowed at its place (also of a seventh letter)");
        String[] prefixes = {"", "a+", "2+", "aaaaaa+", "0", "2", "a+1", "a", "1b", "b+a", "aaaaa", "2bbbbb", "aaaaaa", "2bbbbbb",
            "b+1ababab", "bababa"};
        for (String prefix : prefixes) {
            String letters = prefix.substring(prefix.lastIndexOf('+') + 1).replaceAll("[0-2]", "");
            boolean full = letters.length() == 6;
            int terms = prefix.length() - prefix.replace("+", "").length() + 1;
            for (int c = 0; c < 128; c++) {
                boolean letter = (c == 97 || c == 98) && !full;
                boolean digit = c >= 48 && c <= 50 && isStart(prefix);
                boolean plus = c == 43 && !isStart(prefix);
                int answer = letter || digit ? terms : plus ? -11 - prefix.length() : -10 - prefix.length();
                String line = States.typed(prefix + (char) c);
                DOC.runs(line, "tells() = " + answer, "told(0) = 0; told(1) = 0; told(2) = 0");
                if (!letter && !digit && !plus) {
                    DOC.runs(line, States.typed("+a"), "tells() = " + answer);
                }
            }
        }
    }

    private static void grammar() {
        says("The digit is 0 to 2, and there are at most 6 letters, a or b, in a term (none are necessary behind a digit)");
        DOC.runs(States.typed("/"), "tells() = -10");
        DOC.runs(States.typed("0"), "tells() = 1");
        DOC.runs(States.typed("2"), "tells() = 1");
        DOC.runs(States.typed("3"), "tells() = -10");
        DOC.runs(States.typed("ababab"), "tells() = 1");
        DOC.runs(States.typed("abababa"), "tells() = -16");
        DOC.runs(States.typed("2bababa"), "tells() = 1");
        DOC.runs(States.typed("2bababab"), "tells() = -17");
        DOC.runs(States.typed("aaaaaa+bbbbbb+aaaaaa"), "tells() = 3");
        DOC.runs(States.typed("aaaaaa+bbbbbb+aaaaaaa"), "tells() = -30");

        says("it is the length of the text if the text ends too early, which the empty text does");
        DOC.runs("tells() = -10; told(5) = 0");
        DOC.runs(States.typed("a+"), "tells() = -12");
        DOC.runs(States.typed("2+"), "tells() = -12");
        DOC.runs(States.typed("+"), "tells() = -10");
        DOC.runs(States.typed("1+".repeat(20)), "told(5) = 40; tells() = -50");
        DOC.runs(States.typed("1+".repeat(19) + "1"), "told(5) = 39; tells() = 20; type(43) = 40; tells() = -50");
        DOC.runs(States.typed("1+".repeat(19) + "12"), "told(5) = 40; tells() = -49");
        DOC.runs(States.typed("a"), "clear() = 1; tells() = -10");
    }

    private static void values() {
        says("a term is its digit (1 if there is none), modulo p, times the product of the matrices of its letters from left "
            + "to right (the unit matrix if there are none)");
        String two = "sizes(0, 2); sets(0, 0, 0, 1, 1); sets(0, 1, 1, 0, 1); ";
        DOC.runs(two + States.typed("ab"), "tells() = 1; word(0, 0, 0) = 1; word(0, 1, 1) = 0");
        DOC.runs(two + States.typed("ba"), "tells() = 1; word(0, 0, 0) = 0; word(0, 1, 1) = 1");
        for (int p = 2; p <= 3; p++) {
            for (int digit = 0; digit <= 2; digit++) {
                DOC.runs("begins(" + p + "); " + two + States.typed(digit + ""), "tells() = 1", "word(0, 0, 0) = " + digit % p,
                    "word(0, 1, 1) = " + digit % p, "word(0, 0, 1) = 0; word(0, 1, 0) = 0");
                DOC.runs("begins(" + p + "); " + two + States.typed(digit + "a"), "tells() = 1", "word(0, 0, 0) = 0",
                    "word(0, 0, 1) = " + digit % p);
            }
            DOC.runs("begins(" + p + "); " + two + States.typed("a"), "tells() = 1; word(0, 0, 1) = 1; word(0, 0, 0) = 0");
        }
        DOC.runs(States.circle(2, 0, 6) + ";" + States.typed("aaaaa"), "tells() = 1; word(0, 0, 5) = 1; word(0, 1, 0) = 1",
            "type(97); tells() = 1; word(0, 0, 0) = 1; word(0, 5, 5) = 1; word(0, 0, 5) = 0");

        says("At first the word is a");
        DOC.runs("sets(0, 0, 0, 0, 1); word(0, 0, 0) = 1; sets(0, 0, 0, 0, 0); sets(0, 1, 0, 0, 1); word(0, 0, 0) = 0");
        DOC.runs("told(5) = 0; tells() = -10; sizes(3, 2); sets(3, 0, 1, 0, 1); word(3, 1, 0) = 1; nulls(3, 0) = 1");
    }

    // ---- errors and changes

    private static void errors() {
        says("BAD: there is no such module, or an argument is outside the range that its @param gives");
        DOC.ranges(States.TWO, "size(?)", 0, 3);
        DOC.ranges(States.THREE, "told(?)", 0, 5);

        says("NO: the call is not possible, as the method says");
        DOC.refuses(States.TWO, "parts(0, 0, 0)", NO);
        DOC.refuses("", "back()", NO);

        says("FULL: there is no room for one more");
        DOC.refuses(States.typed("1+".repeat(20)), "type(97)", FULL);

        says("Each method lists its errors in the order in which it checks them and returns the first one that applies");
        String large = "sizes(0, 4); draws(0, 3); sizes(1, 5); draws(1, 4)";
        for (String call : new String[] {"adds(4, 0, 1)", "adds(-1, 0, 1)", "times(4, 0, 1)", "times(-1, 0, 1)", "parts(4, 0, 0)",
            "parts(-1, 0, 0)", "rests(4, 2, 1)", "rests(-1, 2, 1)", "spaces(1, 7)", "spaces(1, -1)"}) {
            DOC.refuses(large, call, BAD);
        }
        for (String call : new String[] {"adds(3, 0, 1)", "times(3, 0, 1)", "parts(3, 0, 0)", "rests(3, 2, 1)", "spaces(1, 6)"}) {
            DOC.refuses(large, call, NO);
        }
        DOC.refuses(States.typed("1+".repeat(20)), "type(128)", BAD);
        DOC.refuses(States.typed("1+".repeat(20)), "type(-1)", BAD);

        says("NONE is not an error; it means \"there is none\" and is returned only if no error applies");
        DOC.runs("row(0, 1, 1) = -1; factor(0, 1, 0) = -1; telling(0, 1, 0) = -1; telling(0, 0, 2) = -1; layer(0, 1) = -1",
            "type(49); tells(); nulls(0, 1) = -1; told(0) = 0; told(1) = 0; told(2) = 0");
        for (String call : new String[] {"row(4, 0, 0)", "row(0, 2, 9)", "row(0, -1, 9)", "factor(4, 9, 0)", "factor(0, 9, 4)",
            "factor(0, 9, -1)", "telling(4, 9, 9)", "telling(0, 9, -1)", "telling(0, -1, 9)", "layer(4, 9)", "layer(-1, 9)",
            "nulls(4, 1)", "nulls(-1, 1)"}) {
            DOC.refuses("type(49); tells()", call, BAD);
        }
    }

    /** One call of each kind that is a change, and one of each kind that is none, possible in the state TWO. */
    private static final String[] CHANGES = {"begins(2)", "begins(3)", "sizes(1, 4)", "sets(0, 0, 0, 0, 1)", "sets(0, 0, 0, 0, 0)",
        "draws(0, 77)", "turns(0, 0, 2, 1)", "turns(0, 0, 2, 0)", "adds(2, 0, 2)", "times(1, 0, 2)", "over(1, 0)", "parts(1, 1, 1)",
        "rests(2, 1, 0)"};
    private static final String[] OTHERS = {"size(0)", "at(0, 0, 0, 0)", "moved(0, 0, 1)", "spun(0, 1)", "row(0, 1, 0)", "simple(0)",
        "least(0)", "factors(0)", "factor(0, 0, 3)", "telling(0, 0, 0)", "common(0, 1)", "ways(0, 1)", "layer(0, 0)", "spaces(0, 1)",
        "word(0, 0, 0)", "nulls(0, 2)", "poly(0, 0)", "told(3)", "digest()", "tells()"};

    private static void changes() {
        says("(those of begins(), sizes(), sets(), draws(), turns(), adds(), times(), over(), parts() and rests() that return no "
            + "error)");
        for (String call : CHANGES) {
            DOC.changes(States.TWO, call);
        }
        for (String call : OTHERS) {
            SpunModules x = Refusals.made(States.TWO);
            Calls.make(x, call);
            DOC.due(call + " is no change", Refusals.usedUp(x).equals(Refusals.usedUp(Refusals.made(States.TWO))) ? 1 : 0, 1);
        }
        DOC.runs(States.TWO, "told(3) = 7; type(97); clear(); tells(); told(3) = 7; back() = 6; told(3) = 6");
        DOC.runs(States.TWO, "begins(4); sizes(0, 7); sets(0, 0, 0, 0, 2); draws(0, -1); turns(0, 0, 0, 0); adds(1, 1, 0)",
            "times(1, 1, 0); over(0, 4); parts(0, 0, 0); rests(3, 3, 1); told(3) = 7; told(0) = 7; told(1) = 5");

        says("The latest 8 calls that are called changes here");
        StringBuilder line = new StringBuilder("told(3) = 0");
        for (int i = 1; i <= 20; i++) {
            line.append("; sizes(0, ").append(1 + i % 6).append("); told(3) = ").append(Math.min(i, 8));
        }
        for (int i = 19; i >= 12; i--) {
            line.append("; back() = ").append(i - 12).append("; size(0) = ").append(1 + i % 6);
        }
        DOC.runs(line.toString(), "back() = -3; told(3) = 0; size(0) = 1; sizes(0, 2); told(3) = 1; back() = 0; back() = -3");

        says("this concerns p and all modules, not the text, the word and the number of errors");
        DOC.runs("begins(3); sizes(0, 2); sizes(1, 3); sizes(2, 4); sizes(3, 5); begins(2); told(4) = 2; back() = 5; told(4) = 3",
            "size(0) = 2; size(1) = 3; size(2) = 4; size(3) = 5");
        DOC.runs("sizes(0, 2); type(98); tells(); type(43); size(4); back() = 0; told(5) = 2; told(0) = 1; back() = -3; told(1) = 1",
            "sets(0, 1, 0, 0, 1); word(0, 0, 0) = 1; tells() = -12; clear() = 2");
    }

    public static void main(String[] args) throws IOException {
        lives();
        field();
        modules();
        vectors();
        subspaces();
        quotients();
        simples();
        forms();
        order();
        homomorphisms();
        socles();
        text();
        bytes();
        grammar();
        values();
        errors();
        changes();
        DOC.ends(1, 0);
    }
}
