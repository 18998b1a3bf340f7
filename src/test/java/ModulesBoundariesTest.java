import java.io.IOException;
import java.math.BigInteger;

/** The boundary cases that promises 1 to 11 name, sentence by sentence. */
public final class ModulesBoundariesTest {
    private static final Sentences DOC = new Sentences();
    private static final int BAD = SpunModules.BAD;
    private static final int NO = SpunModules.NO;

    /** The argument may be 0 to 3, in both fields. */
    private static void module(int promise, String name, String call) {
        DOC.says(promise, "`" + name + "`: a module, 0 to 3");
        DOC.ranges(States.TWO, call, 0, 3);
        DOC.ranges(States.THREE, call, 0, 3);
    }

    private static void change(int promise, String... calls) {
        DOC.says(promise, "This is a change.");
        for (String call : calls) {
            DOC.changes(States.TWO, call);
            DOC.changes(States.THREE, call);
        }
    }

    /** The answer in a state, given by hand. */
    private static void answers(int promise, String sentence, String... lines) {
        DOC.says(promise, sentence);
        DOC.runs(lines);
    }

    private static void bad(int promise, String sentence, String... calls) {
        DOC.says(promise, sentence);
        for (String call : calls) {
            DOC.refuses(States.TWO, call, BAD);
            DOC.refuses(States.THREE, call, BAD);
        }
    }

    private static void newObject() {
        DOC.says(1, "Creates a workbench in its first state, with an empty text.");
        DOC.runs("told(5) = 0; clear() = 0; tells() = -10; type(97) = 1");
        DOC.runs("told(0) = 0; told(1) = 0; told(2) = 0; told(3) = 0; told(4) = 2; back() = -3");
        SpunModules first = new SpunModules();
        long fresh = first.digest();
        Refusals.makes(first, States.THREE);
        DOC.due("another new object behind changes of the first one: digest()", new SpunModules().digest(), fresh);
        SpunModules second = Refusals.made(States.TWO);
        DOC.due("two objects share nothing", first.digest(), Refusals.made(States.THREE).digest());
        DOC.due("two objects share nothing", second.digest(), Refusals.made(States.TWO).digest());
    }

    private static void begins() {
        DOC.says(2, "All modules get size 1 and entries 0.");
        for (int p = 2; p <= 3; p++) {
            for (int q = 2; q <= 3; q++) {
                StringBuilder line = new StringBuilder("begins(" + p + ")");
                for (int k = 0; k < 4; k++) {
                    line.append("; sizes(").append(k).append(", ").append(States.largest(p) - k).append("); draws(").append(k)
                        .append(", 77); sets(").append(k).append(", 0, 0, 0, 1); sets(").append(k).append(", 1, 0, 0, 1)");
                }
                line.append("; begins(").append(q).append(") = ").append(q);
                for (int k = 0; k < 4; k++) {
                    line.append("; size(").append(k).append(") = 1; at(").append(k).append(", 0, 0, 0) = 0; at(").append(k)
                        .append(", 1, 0, 0) = 0; at(").append(k).append(", 0, 0, 1) = -2");
                }
                // nothing of the entries before is left behind the size
                line.append("; sizes(0, 5); at(0, 0, 0, 0) = 0; at(0, 0, 4, 4) = 0; at(0, 1, 1, 2) = 0; factors(0) = 5");
                DOC.runs(line.toString());
            }
        }
        change(2, "begins(2)", "begins(3)");

        DOC.says(2, "`p`: 2 or 3");
        DOC.ranges("", "begins(?)", 2, 3);
        DOC.ranges(States.TWO, "begins(?)", 2, 3);
        DOC.ranges(States.THREE, "begins(?)", 2, 3);
        answers(2, "Returns p", "begins(2) = 2; begins(3) = 3; begins(3) = 3; begins(2) = 2");
        bad(2, "errors: BAD", "begins(1)", "begins(4)", "begins(0)", "begins(-2)", "begins(5)");
    }

    private static void sizes() {
        DOC.says(3, "All its entries are 0 then.");
        DOC.runs(States.drawn(2, 0, 6, 3), "sizes(1, 6); draws(1, 3); sizes(0, 6) = 6; sizes(2, 6); adds(3, 2, 3) = -3",
            "ways(0, 2) = 36; layer(0, 0) = 6; at(0, 1, 5, 5) = 0; sets(0, 0, 5, 5, 1) = 0; sets(0, 0, 0, 0, 1) = 0");
        DOC.runs(States.drawn(3, 0, 5, 3), "sizes(0, 1) = 1; at(0, 0, 0, 0) = 0; at(0, 1, 0, 0) = 0; sizes(0, 5) = 5; sizes(1, 5)",
            "ways(0, 1) = 25; at(0, 0, 0, 0) = 0; at(0, 0, 4, 4) = 0; at(0, 1, 4, 4) = 0");
        change(3, "sizes(0, 1)", "sizes(0, 5)", "sizes(1, 3)", "sizes(1, 4)");
        module(3, "k", "sizes(?, 2)");

        DOC.says(3, "`n`: 1 to 6 if p is 2, 1 to 5 if p is 3");
        DOC.ranges("", "sizes(0, ?)", 1, 6);
        DOC.ranges(States.TWO, "sizes(3, ?)", 1, 6);
        DOC.ranges("begins(3)", "sizes(0, ?)", 1, 5);
        DOC.ranges(States.THREE, "sizes(3, ?)", 1, 5);
        DOC.ranges("begins(3); begins(2)", "sizes(1, ?)", 1, 6);
        DOC.ranges("begins(3); back()", "sizes(2, ?)", 1, 6);
        answers(3, "Returns n", "sizes(0, 1) = 1; sizes(0, 6) = 6; begins(3); sizes(0, 1) = 1; sizes(0, 5) = 5; sizes(0, 6) = -2");
        bad(3, "errors: BAD", "sizes(-1, 1)", "sizes(4, 1)", "sizes(0, 0)", "sizes(0, 7)", "sizes(4, 7)", "sizes(-1, 0)");
    }

    private static void sets() {
        DOC.says(4, "Sets an entry of a matrix.");
        for (int p = 2; p <= 3; p++) {
            int n = States.largest(p);
            for (int t = 0; t < 2 * n * n; t++) {
                oneEntry(p, n, t / (n * n), t / n % n, t % n);
            }
        }
        change(4, "sets(0, 0, 0, 0, 1)", "sets(0, 0, 0, 0, 0)", "sets(0, 1, 1, 1, 1)", "sets(1, 1, 2, 2, 0)");
        module(4, "k", "sets(?, 0, 0, 0, 1)");

        DOC.says(4, "`g`: 0 for a, 1 for b");
        DOC.ranges(States.TWO, "sets(0, ?, 1, 2, 1)", 0, 1);
        DOC.ranges(States.THREE, "sets(0, ?, 1, 1, 2)", 0, 1);
        DOC.says(4, "`i`: its row");
        places("sets(0, 0, ?, 0, 1)");
        places("sets(0, 1, ?, 0, 0)");
        DOC.says(4, "`j`: its column");
        places("sets(0, 0, 0, ?, 1)");
        places("sets(0, 1, 0, ?, 0)");
        DOC.says(4, "`v`: 0 to p - 1");
        DOC.ranges(States.TWO, "sets(1, 1, 3, 3, ?)", 0, 1);
        DOC.ranges(States.THREE, "sets(1, 1, 2, 2, ?)", 0, 2);
        answers(4, "Returns the entry before the call", "begins(3); sets(0, 0, 0, 0, 2) = 0; sets(0, 0, 0, 0, 2) = 2",
            "sets(0, 0, 0, 0, 1) = 2; sets(0, 0, 0, 0, 0) = 1; sets(0, 0, 0, 0, 0) = 0; sets(0, 1, 0, 0, 1) = 0");
        bad(4, "errors: BAD", "sets(4, 0, 0, 0, 0)", "sets(-1, 0, 0, 0, 0)", "sets(0, 2, 0, 0, 0)", "sets(0, -1, 0, 0, 0)",
            "sets(0, 0, 3, 0, 0)", "sets(0, 0, 0, 3, 0)", "sets(0, 0, -1, 0, 0)", "sets(0, 0, 0, -1, 0)", "sets(0, 0, 0, 0, 3)",
            "sets(0, 0, 0, 0, -1)", "sets(3, 0, 1, 0, 0)", "sets(3, 0, 0, 1, 0)");
    }

    /** Only the one entry is set, and only it is emptied again. */
    private static void oneEntry(int p, int n, int g, int i, int j) {
        String place = "0, " + g + ", " + i + ", " + j;
        StringBuilder line = new StringBuilder(States.zero(p, 0, n) + "; sets(" + place + ", " + (p - 1) + ") = 0");
        for (int t = 0; t < 2 * n * n; t++) {
            boolean same = t == (g * n + i) * n + j;
            line.append("; ").append(Calls.told("at", 0, t / (n * n), t / n % n, t % n)).append(same ? " = " + (p - 1) : " = 0");
        }
        line.append("; sets(").append(place).append(", 0) = ").append(p - 1).append("; at(").append(place).append(") = 0");
        DOC.runs(line.toString());
    }

    /** The argument is a place of module 0, for each size in both fields. */
    private static void places(String call) {
        for (int p = 2; p <= 3; p++) {
            for (int n = 1; n <= States.largest(p); n++) {
                DOC.ranges(States.drawn(p, 0, n, 9), call, 0, n - 1);
            }
        }
    }

    private static void draws() {
        DOC.says(5, "x is the seed at first; for each entry x becomes (x * 1103515245 + 12345) modulo 2^31, and the entry is (x / "
            + "65536, rounded down) modulo p.");
        for (int p = 2; p <= 3; p++) {
            for (int n = 1; n <= States.largest(p); n++) {
                for (int seed : new int[] {0, 1, 65535, 65536, 999998, 999999}) {
                    drawnEntries(p, n, seed);
                }
            }
        }
        change(5, "draws(0, 0)", "draws(1, 999999)");
        module(5, "k", "draws(?, 1234)");
        DOC.says(5, "`seed`: 0 to 999999");
        DOC.ranges(States.TWO, "draws(0, ?)", 0, 999999);
        DOC.ranges(States.THREE, "draws(1, ?)", 0, 999999);
        answers(5, "Returns how many entries are not 0", "draws(0, 0) = 0; draws(0, 999999) = 0; sizes(0, 2); draws(0, 0) = 4",
            "begins(3); draws(0, 0) = 0; draws(0, 999999) = 2; sizes(0, 5); draws(0, 0) = 35");
        bad(5, "errors: BAD", "draws(4, 0)", "draws(-1, 0)", "draws(0, -1)", "draws(0, 1000000)", "draws(4, 1000000)");
    }

    private static void drawnEntries(int p, int n, int seed) {
        BigInteger x = BigInteger.valueOf(seed);
        StringBuilder line = new StringBuilder();
        int count = 0;
        for (int t = 0; t < 2 * n * n; t++) {
            x = x.multiply(BigInteger.valueOf(1103515245)).add(BigInteger.valueOf(12345)).mod(BigInteger.TWO.pow(31));
            int entry = x.divide(BigInteger.valueOf(65536)).mod(BigInteger.valueOf(p)).intValue();
            count += entry == 0 ? 0 : 1;
            line.append("; ").append(Calls.told("at", 1, t / (n * n), t / n % n, t % n)).append(" = ").append(entry);
        }
        String draw = "draws(1, " + seed + ") = " + count;
        // drawn twice, so that what was there before is seen to be gone
        DOC.runs(States.zero(p, 1, n), "draws(1, 4711)", draw + line);
    }

    private static void turns() {
        DOC.says(6, "it consists of the unit vectors, but instead of unit vector i of the sum of unit vector i and c times unit "
            + "vector j");
        // a sends e0 to itself and the rest to 0; in the new basis e0 = (e0 + c last) - c last
        for (int p = 2; p <= 3; p++) {
            for (int n = 2; n <= States.largest(p); n++) {
                String last = Integer.toString(n - 1);
                for (int c = 0; c < p; c++) {
                    DOC.runs(States.zero(p, 0, n) + "; sets(0, 0, 0, 0, 1); sets(0, 1, " + last + ", " + last + ", 1)",
                        "turns(0, 0, " + last + ", " + c + ") = " + (c == 0 ? 0 : 2), "at(0, 0, 0, 0) = 1",
                        "at(0, 0, 0, " + last + ") = " + (p - c) % p, "at(0, 1, 0, " + last + ") = " + c,
                        "at(0, 1, " + last + ", " + last + ") = 1", "at(0, 0, " + last + ", 0) = 0");
                    DOC.runs(States.zero(p, 0, n) + "; sets(0, 0, 0, 0, 1); sets(0, 1, " + last + ", " + last + ", 1)",
                        "turns(0, " + last + ", 0, " + c + ") = " + (c == 0 ? 0 : 2), "at(0, 0, 0, 0) = 1",
                        "at(0, 0, " + last + ", 0) = " + c, "at(0, 1, " + last + ", 0) = " + (p - c) % p,
                        "at(0, 0, 0, " + last + ") = 0");
                }
            }
        }
        change(6, "turns(0, 0, 1, 1)", "turns(0, 1, 0, 0)", "turns(1, 2, 0, 1)");
        DOC.says(6, "`k`: a module, 0 to 3");
        String four = "; sizes(0, 2); draws(0, 20); sizes(1, 3); draws(1, 21); sizes(2, 2); draws(2, 22); sizes(3, 4); draws(3, 23)";
        DOC.ranges("begins(2)" + four, "turns(?, 0, 1, 1)", 0, 3);
        DOC.ranges("begins(3)" + four, "turns(?, 0, 1, 1)", 0, 3);

        DOC.says(6, "`i`: a place");
        otherPlaces("turns(0, ?, 0, 1)", 0);
        DOC.says(6, "`j`: another place");
        otherPlaces("turns(0, 0, ?, 1)", 0);
        DOC.says(6, "`c`: 0 to p - 1");
        DOC.ranges(States.TWO, "turns(0, 0, 2, ?)", 0, 1);
        DOC.ranges(States.THREE, "turns(0, 1, 0, ?)", 0, 2);
        answers(6, "Returns how many entries of both matrices have changed", "sizes(0, 6); turns(0, 0, 5, 1) = 0; draws(0, 5351)",
            "turns(0, 5, 0, 0) = 0; turns(0, 5, 0, 1) = 20; begins(3); sizes(0, 5); draws(0, 145); turns(0, 4, 0, 0) = 0",
            "turns(0, 4, 0, 2) = 18; begins(2); sizes(0, 2); draws(0, 2); turns(0, 1, 0, 1) = 6");
        DOC.says(6, "errors: BAD, also if i equals j");
        for (int p = 2; p <= 3; p++) {
            for (int n = 1; n <= States.largest(p); n++) {
                for (int i = 0; i <= n; i++) {
                    for (int c = 0; c < p; c++) {
                        DOC.refuses(States.drawn(p, 0, n, 9), Calls.told("turns", 0, i, i, c), BAD);
                    }
                }
            }
        }
        DOC.refuses("", "turns(0, 0, 1, 0)", BAD);
        DOC.refuses("", "turns(0, 1, 0, 0)", BAD);
    }

    /** A place of module 0 other than the one that the call names. */
    private static void otherPlaces(String call, int named) {
        for (int p = 2; p <= 3; p++) {
            for (int n = 2; n <= States.largest(p); n++) {
                DOC.ranges(States.drawn(p, 0, n, 9), call, named + 1, n - 1);
                DOC.refuses(States.drawn(p, 0, n, 9), call.replace("?", Integer.toString(named)), BAD);
                DOC.refuses(States.drawn(p, 0, n, 9), call.replace("?", "-1"), BAD);
            }
        }
    }

    private static String twoSizes(int p, int x, int y) {
        return States.drawn(p, 1, x, 11) + "; sizes(2, " + y + "); draws(2, 12); sizes(0, 2)";
    }

    private static void adds() {
        DOC.says(7, "the places of x come first, and entries for places of different modules are 0.");
        for (int p = 2; p <= 3; p++) {
            for (int x = 1; x < States.largest(p); x++) {
                for (int y = 1; x + y <= States.largest(p); y++) {
                    DOC.runs(twoSizes(p, x, y), "adds(0, 1, 2) = " + (x + y), blocks(p, x, y));
                    for (String call : new String[] {"adds(1, 1, 2)", "adds(2, 1, 2)", "adds(3, 2, 1)"}) {
                        DOC.allows(twoSizes(p, x, y), call);
                    }
                }
            }
        }
        DOC.allows(States.drawn(2, 0, 3, 7), "adds(0, 0, 0)");
        DOC.allows(States.drawn(3, 0, 2, 7), "adds(0, 0, 0)");
        change(7, "adds(2, 3, 3)", "adds(0, 0, 3)", "adds(1, 3, 0)");
        module(7, "k", "adds(?, 3, 3)");
        module(7, "x", "adds(1, ?, 3)");
        module(7, "y", "adds(1, 3, ?)");
        answers(7, "Returns its size", "adds(0, 1, 2) = 2; adds(0, 0, 0) = 4; adds(0, 0, 1) = 5; adds(0, 0, 1) = 6; size(0) = 6");
        bad(7, "errors: BAD", "adds(4, 0, 0)", "adds(-1, 0, 0)", "adds(0, 4, 0)", "adds(0, -1, 0)", "adds(0, 0, 4)", "adds(0, 0, -1)",
            "adds(4, 1, 1)", "adds(1, 1, 4)");
        DOC.says(7, "NO if it would be too large");
        for (int p = 2; p <= 3; p++) {
            for (int x = 1; x <= States.largest(p); x++) {
                for (int y = 1; y <= States.largest(p); y++) {
                    if (x + y > States.largest(p)) {
                        DOC.refuses(twoSizes(p, x, y), "adds(0, 1, 2)", NO);
                        DOC.refuses(twoSizes(p, x, y), "adds(2, 2, 1)", NO);
                        DOC.refuses(twoSizes(p, x, y), "adds(4, 1, 2)", BAD);
                    } else {
                        DOC.allows(twoSizes(p, x, y), "adds(0, 2, 1)");
                    }
                }
            }
        }
    }

    /** All entries of the sum of the modules 1 and 2, which twoSizes() draws. */
    private static String blocks(int p, int x, int y) {
        SpunModules old = Refusals.made(twoSizes(p, x, y));
        StringBuilder line = new StringBuilder();
        for (int t = 0; t < 2 * (x + y) * (x + y); t++) {
            int g = t / (x + y) / (x + y);
            int i = t / (x + y) % (x + y);
            int j = t % (x + y);
            int entry = i < x && j < x ? old.at(1, g, i, j) : i >= x && j >= x ? old.at(2, g, i - x, j - x) : 0;
            line.append("; ").append(Calls.told("at", 0, g, i, j)).append(" = ").append(entry);
        }
        return line.toString();
    }

    private static void times() {
        DOC.says(8, "its place (size of y) * i + j stands for place i of x and place j of y");
        for (int p = 2; p <= 3; p++) {
            for (int x = 1; x <= States.largest(p); x++) {
                for (int y = 1; x * y <= States.largest(p); y++) {
                    DOC.runs(twoSizes(p, x, y), "times(0, 1, 2) = " + x * y, products(p, x, y));
                    for (String call : new String[] {"times(1, 1, 2)", "times(2, 1, 2)", "times(3, 2, 1)"}) {
                        DOC.allows(twoSizes(p, x, y), call);
                    }
                }
            }
        }
        DOC.allows(States.drawn(2, 0, 2, 7), "times(0, 0, 0)");
        DOC.allows(States.drawn(3, 0, 2, 7), "times(0, 0, 0)");
        change(8, "times(0, 3, 3)", "times(1, 0, 3)", "times(2, 3, 1)");
        module(8, "k", "times(?, 3, 3)");
        module(8, "x", "times(1, ?, 3)");
        module(8, "y", "times(1, 3, ?)");
        answers(8, "Returns its size", "times(0, 1, 2) = 1; sizes(1, 6); times(0, 1, 2) = 6; times(2, 3, 1) = 6; size(2) = 6");
        bad(8, "errors: BAD", "times(4, 0, 0)", "times(-1, 0, 0)", "times(0, 4, 0)", "times(0, -1, 0)", "times(0, 0, 4)",
            "times(0, 0, -1)", "times(4, 1, 1)", "times(1, 1, 4)");
        DOC.says(8, "NO if it would be too large");
        for (int p = 2; p <= 3; p++) {
            for (int x = 1; x <= States.largest(p); x++) {
                for (int y = 1; y <= States.largest(p); y++) {
                    if (x * y > States.largest(p)) {
                        DOC.refuses(twoSizes(p, x, y), "times(0, 1, 2)", NO);
                        DOC.refuses(twoSizes(p, x, y), "times(2, 2, 1)", NO);
                        DOC.refuses(twoSizes(p, x, y), "times(4, 1, 2)", BAD);
                    } else {
                        DOC.allows(twoSizes(p, x, y), "times(0, 2, 1)");
                    }
                }
            }
        }
    }

    /** All entries of the product of the modules 1 and 2, which twoSizes() draws. */
    private static String products(int p, int x, int y) {
        SpunModules old = Refusals.made(twoSizes(p, x, y));
        StringBuilder line = new StringBuilder();
        for (int g = 0; g < 2; g++) {
            for (int i = 0; i < x; i++) {
                for (int j = 0; j < y; j++) {
                    for (int t = 0; t < x * y; t++) {
                        int entry = old.at(1, g, i, t / y) * old.at(2, g, j, t % y) % p;
                        line.append("; ").append(Calls.told("at", 0, g, y * i + j, t)).append(" = ").append(entry);
                    }
                }
            }
        }
        return line.toString();
    }

    private static void over() {
        DOC.says(9, "Makes module k the module x with both matrices transposed.");
        for (int p = 2; p <= 3; p++) {
            for (int n = 1; n <= States.largest(p); n++) {
                SpunModules old = Refusals.made(States.drawn(p, 1, n, 8));
                for (int k = 0; k < 2; k++) {
                    StringBuilder line = new StringBuilder("over(" + k + ", 1) = " + n);
                    for (int t = 0; t < 2 * n * n; t++) {
                        int g = t / n / n;
                        int i = t / n % n;
                        int j = t % n;
                        line.append("; ").append(Calls.told("at", k, g, i, j)).append(" = ").append(old.at(1, g, j, i));
                    }
                    DOC.runs(States.drawn(p, 1, n, 8), line.toString());
                }
            }
        }
        change(9, "over(0, 0)", "over(1, 0)", "over(0, 1)");
        module(9, "k", "over(?, 1)");
        module(9, "x", "over(1, ?)");
        answers(9, "Returns its size", "over(0, 1) = 1; sizes(1, 6); over(0, 1) = 6; size(0) = 6; over(0, 2) = 1; size(0) = 1");
        bad(9, "errors: BAD", "over(4, 0)", "over(-1, 0)", "over(0, 4)", "over(0, -1)", "over(4, 4)");
    }

    /** The argument is a vector of module 0, for each size in both fields. */
    private static void vectors(String call) {
        for (int p = 2; p <= 3; p++) {
            for (int n = 1; n <= States.largest(p); n++) {
                DOC.ranges(States.drawn(p, 0, n, 13), call, 0, States.power(p, n) - 1);
            }
            DOC.ranges(States.chain(p, 0, 4), call, 0, States.power(p, 4) - 1);
            DOC.ranges(States.circle(p, 0, 4), call, 0, States.power(p, 4) - 1);
        }
    }

    private static void parts() {
        DOC.says(10, "Makes module k the space spun by a vector of module x, as a module.");
        DOC.runs(States.chain(2, 0, 6), "parts(0, 0, 2) = 5; size(0) = 5; parts(0, 0, 31) = 5; parts(0, 0, 16) = 1; size(0) = 1",
            "at(0, 0, 0, 0) = 0; parts(0, 0, 1) = 1; parts(0, 0, 2) = -2");
        DOC.runs(States.chain(3, 0, 5), "parts(1, 0, 81) = 1; parts(1, 0, 162) = 1; parts(1, 0, 27) = 2; at(1, 0, 0, 1) = 1");
        change(10, "parts(0, 0, 1)", "parts(1, 0, 3)", "parts(2, 3, 1)");
        module(10, "k", "parts(?, 1, 5)");
        module(10, "x", "parts(1, ?, 1)");
        DOC.says(10, "`v`: a vector of x, as a number");
        vectors("parts(1, 0, ?)");
        vectors("parts(0, 0, ?)");
        answers(10, "Returns its size", "parts(0, 1, 1) = 1", States.simple(2, 2, 6), "parts(0, 2, 63) = 6; size(0) = 6");
        bad(10, "errors: BAD", "parts(4, 0, 1)", "parts(-1, 0, 1)", "parts(0, 4, 1)", "parts(0, -1, 1)", "parts(0, 0, -1)",
            "parts(0, 0, 81)", "parts(4, 0, 0)", "parts(0, 4, 0)", "parts(0, -1, 0)", "parts(0, 3, 3)");
        DOC.says(10, "NO if v is 0");
        for (int p = 2; p <= 3; p++) {
            for (int k = 0; k < 4; k++) {
                for (int x = 0; x < 4; x++) {
                    DOC.refuses(States.of(p), Calls.told("parts", k, x, 0), NO);
                    DOC.allows(States.of(p), Calls.told("parts", k, x, 1));
                }
            }
        }
    }

    private static void rests() {
        DOC.says(11, "Makes module k the quotient of module x by the space spun by a vector.");
        DOC.runs(States.chain(2, 0, 6), "rests(0, 0, 32) = 5; size(0) = 5; at(0, 0, 3, 4) = 1; rests(0, 0, 2) = 1; size(0) = 1",
            "rests(0, 0, 0) = 1; rests(0, 0, 1) = -3");
        DOC.runs(States.chain(3, 0, 5), "rests(1, 0, 162) = 4; rests(1, 0, 3) = 1; rests(1, 0, 6) = 1; rests(1, 0, 1) = -3");
        change(11, "rests(0, 0, 0)", "rests(1, 0, 0)", "rests(0, 1, 0)");
        module(11, "k", "rests(?, 1, 0)");
        module(11, "x", "rests(1, ?, 0)");
        DOC.says(11, "`v`: a vector of x, as a number, also 0");
        vectors("rests(1, 0, ?)");
        vectors("rests(0, 0, ?)");
        for (int p = 2; p <= 3; p++) {
            for (int n = 1; n <= States.largest(p); n++) {
                SpunModules x = Refusals.made(States.drawn(p, 0, n, 13));
                x.rests(1, 0, 0);
                DOC.due("rests(1, 0, 0) gives module 0 itself, its size", x.size(1), n);
                for (int t = 0; t < 2 * n * n; t++) {
                    DOC.due("rests(1, 0, 0) gives module 0 itself, entry " + t, x.at(1, t / n / n, t / n % n, t % n),
                        x.at(0, t / n / n, t / n % n, t % n));
                }
            }
        }
        answers(11, "Returns its size", "rests(0, 1, 0) = 1; sizes(1, 6); rests(0, 1, 0) = 6; rests(0, 1, 63) = 5; size(0) = 5");
        bad(11, "errors: BAD", "rests(4, 0, 0)", "rests(-1, 0, 0)", "rests(0, 4, 0)", "rests(0, -1, 0)", "rests(0, 0, -1)",
            "rests(0, 0, 81)", "rests(4, 3, 1)", "rests(0, 4, 1)", "rests(0, -1, 1)", "rests(0, 3, 3)");
        DOC.says(11, "NO if the space is the whole of x");
        for (int p = 2; p <= 3; p++) {
            for (int n = 1; n <= States.largest(p); n++) {
                DOC.refuses(States.simple(p, 0, n), "rests(1, 0, 1)", NO);
                DOC.refuses(States.simple(p, 0, n), "rests(0, 0, " + (States.power(p, n) - 1) + ")", NO);
                DOC.refuses(States.chain(p, 0, n), "rests(1, 0, 1)", NO);
                DOC.allows(States.chain(p, 0, n), "rests(1, 0, " + (n == 1 ? 0 : p) + ")");
            }
        }
        DOC.refuses("", "rests(3, 3, 1)", NO);
        DOC.allows("", "rests(3, 3, 0)");
    }

    public static void main(String[] args) throws IOException {
        newObject();
        begins();
        sizes();
        sets();
        draws();
        turns();
        adds();
        times();
        over();
        parts();
        rests();
        DOC.ends(1, 11);
    }
}
