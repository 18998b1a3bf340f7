/** Each promise by hand: ordinary inputs, the edges that the document names, and wrong inputs. */
public final class PromisesTest {
    private static final Check CHECK = new Check();

    /** The model has to follow the same lines, so that both are known to keep the promises. */
    private static void run(String name, String... lines) {
        String all = String.join("; ", lines);
        Calls.run(CHECK, new SpunModules(), name, all);
        Calls.run(CHECK, new Model(), name + " (model)", all);
    }

    private static String typed(String text) {
        StringBuilder line = new StringBuilder("clear() = 0");
        for (int i = 0; i < text.length(); i++) {
            line.append("; type(").append((int) text.charAt(i)).append(") = ").append(i + 1);
        }
        return line.toString();
    }

    /** A text and what tells() has to answer to it. */
    private static void reads(String text, int answer) {
        run("tells \"" + text + "\"", typed(text), "tells() = " + answer, "told(5) = " + text.length(),
            "told(0) = 0; told(1) = 0; told(2) = 0");
    }

    private static void newObject() {
        run("1 a new object", "told(0) = 0; told(1) = 0; told(2) = 0; told(3) = 0; told(4) = 2; told(5) = 0",
            "size(0) = 1; size(1) = 1; size(2) = 1; size(3) = 1", "at(0, 0, 0, 0) = 0; at(3, 1, 0, 0) = 0",
            "clear() = 0; back() = -3");
        run("1 the first word is a", "sizes(0, 2) = 2; sets(0, 0, 0, 1, 1) = 0; sets(0, 1, 1, 0, 1) = 0",
            "word(0, 0, 1) = 1; word(0, 1, 0) = 0; word(0, 0, 0) = 0; word(0, 1, 1) = 0");
    }

    private static void begins() {
        run("2 begins", "begins(3) = 3; told(4) = 3; told(3) = 1", "sizes(2, 5) = 5; draws(2, 3) = 30",
            "sets(0, 0, 0, 0, 2) = 0", "begins(3) = 3; size(2) = 1; at(0, 0, 0, 0) = 0; at(2, 0, 0, 0) = 0",
            "begins(2) = 2; told(4) = 2; sets(0, 0, 0, 0, 2) = -2", "sizes(0, 6) = 6");
        run("2 begins, wrong", "begins(1) = -2; begins(4) = -2; begins(0) = -2; begins(-3) = -2; told(4) = 2",
            "begins(-2147483648) = -2; begins(2147483647) = -2; told(0) = 6; told(3) = 0");
        run("2 begins keeps the text and the word", typed("2b+1"), "tells() = 2; begins(3) = 3; told(5) = 4",
            "sets(1, 1, 0, 0, 2) = 0; word(1, 0, 0) = 2; word(0, 0, 0) = 1");
    }

    private static void sizes() {
        run("3 sizes", "sizes(0, 6) = 6; sizes(1, 1) = 1; sizes(3, 2) = 2; size(0) = 6; size(2) = 1; size(3) = 2",
            "sets(3, 1, 1, 1, 1) = 0; sizes(3, 2) = 2; at(3, 1, 1, 1) = 0; told(3) = 5",
            "sets(3, 1, 1, 1, 1) = 0; sizes(3, 1) = 1; sizes(3, 3) = 3; at(3, 1, 1, 1) = 0");
        run("3 sizes, wrong", "sizes(0, 7) = -2; sizes(0, 0) = -2; sizes(0, -1) = -2; sizes(-1, 1) = -2",
            "sizes(4, 1) = -2; sizes(2147483647, 1) = -2; begins(3) = 3; sizes(0, 6) = -2; sizes(0, 5) = 5");
    }

    private static void sets() {
        run("4 sets", "begins(3) = 3; sizes(1, 3) = 3; sets(1, 0, 2, 1, 2) = 0; sets(1, 0, 2, 1, 1) = 2",
            "sets(1, 0, 2, 1, 1) = 1; sets(1, 1, 2, 1, 2) = 0; at(1, 0, 2, 1) = 1; at(1, 1, 2, 1) = 2",
            "at(1, 0, 1, 2) = 0; told(3) = 6; sets(1, 0, 2, 1, 0) = 1; at(1, 0, 2, 1) = 0");
        run("4 sets, wrong", "sets(4, 0, 0, 0, 0) = -2; sets(-1, 0, 0, 0, 0) = -2; sets(0, 2, 0, 0, 0) = -2",
            "sets(0, -1, 0, 0, 0) = -2; sets(0, 0, 1, 0, 0) = -2; sets(0, 0, -1, 0, 0) = -2",
            "sets(0, 0, 0, 1, 0) = -2; sets(0, 0, 0, -1, 0) = -2; sets(0, 0, 0, 0, 2) = -2",
            "sets(0, 0, 0, 0, -1) = -2; told(3) = 0; told(0) = 10; begins(3) = 3; sets(0, 0, 0, 0, 2) = 0",
            "sets(0, 0, 0, 0, 3) = -2");
    }

    private static void draws() {
        // x from 0 on: 12345, 1406932606, 654583775, 1449466924, ..: divided by 65536: 0, 21468, 9988, 22117
        run("5 draws", "draws(0, 0) = 0; at(0, 0, 0, 0) = 0; at(0, 1, 0, 0) = 0; sizes(1, 2) = 2; draws(1, 0) = 4",
            "at(1, 0, 0, 1) = 0; at(1, 0, 1, 0) = 0; at(1, 0, 1, 1) = 1; begins(3) = 3; sizes(1, 2) = 2; told(3) = 5",
            "draws(1, 0) = 5; at(1, 0, 0, 0) = 0; at(1, 0, 0, 1) = 0; at(1, 0, 1, 0) = 1; at(1, 0, 1, 1) = 1; told(3) = 6",
            "draws(0, 999999) = 2; sizes(3, 2) = 2; draws(3, 77) = 7; at(3, 0, 0, 1) = 2");
        run("5 draws, wrong", "draws(0, -1) = -2; draws(0, 1000000) = -2; draws(4, 0) = -2; draws(-1, 0) = -2",
            "told(3) = 0");
    }

    private static void turns() {
        // a = (0 1; 0 0) in the basis e0 + e1, e1: (e0 + e1) * a = e1, e1 * a = 0; in e0, e1 + e0 it is (1 1; 1 1)
        run("6 turns", "sizes(0, 2) = 2; sets(0, 0, 0, 1, 1) = 0; turns(0, 0, 1, 1) = 0",
            "turns(0, 1, 0, 1) = 3; at(0, 0, 0, 0) = 1; at(0, 0, 0, 1) = 1; at(0, 0, 1, 0) = 1; at(0, 0, 1, 1) = 1",
            "told(3) = 4; turns(0, 1, 0, 0) = 0; told(3) = 5");
        // a = (1 0; 0 0) in the basis e0 + 2 e1, e1: (e0 + 2 e1) * a = e0 = (e0 + 2 e1) + e1
        run("6 turns modulo 3", "begins(3) = 3; sizes(0, 2) = 2; sets(0, 0, 0, 0, 1) = 0; sets(0, 1, 1, 1, 2) = 0",
            "turns(0, 0, 1, 2) = 2; at(0, 0, 0, 0) = 1; at(0, 0, 0, 1) = 1; at(0, 1, 0, 1) = 1; at(0, 1, 1, 1) = 2");
        run("6 turns, wrong", "turns(0, 0, 0, 0) = -2; sizes(0, 2) = 2; turns(0, 1, 1, 1) = -2; turns(0, 2, 0, 1) = -2",
            "turns(0, 0, 2, 1) = -2; turns(0, -1, 0, 1) = -2; turns(0, 0, -1, 1) = -2; turns(0, 0, 1, 2) = -2",
            "turns(0, 0, 1, -1) = -2; turns(4, 0, 1, 1) = -2; turns(-1, 0, 1, 1) = -2; told(3) = 1; told(0) = 10");
    }

    private static void adds() {
        run("7 adds", "sizes(0, 2) = 2; sets(0, 0, 0, 1, 1) = 0; sets(0, 1, 1, 0, 1) = 0; sets(1, 0, 0, 0, 1) = 0",
            "adds(2, 1, 0) = 3; size(2) = 3; at(2, 0, 0, 0) = 1; at(2, 0, 1, 2) = 1; at(2, 1, 2, 1) = 1",
            "at(2, 0, 0, 1) = 0; at(2, 0, 1, 1) = 0", "adds(2, 2, 2) = 6; at(2, 0, 3, 3) = 1; at(2, 0, 4, 5) = 1",
            "at(2, 1, 5, 4) = 1; at(2, 0, 0, 3) = 0; told(3) = 6; adds(3, 2, 1) = -3; told(3) = 6; size(3) = 1");
        run("7 adds, wrong", "adds(4, 0, 0) = -2; adds(0, 4, 0) = -2; adds(0, 0, 4) = -2; adds(-1, 0, 0) = -2",
            "adds(0, -1, 0) = -2; adds(0, 0, -1) = -2; begins(3) = 3; sizes(0, 3) = 3; adds(1, 0, 0) = -3",
            "adds(4, 0, 0) = -2; sizes(1, 2) = 2; adds(0, 0, 1) = 5; told(1) = 1; told(0) = 7");
    }

    private static void times() {
        run("8 times", "begins(3) = 3; sizes(0, 2) = 2; sets(0, 0, 0, 1, 2) = 0; sets(0, 1, 1, 1, 2) = 0",
            "sizes(1, 2) = 2; sets(1, 0, 1, 0, 2) = 0; sets(1, 1, 0, 1, 2) = 0; times(2, 0, 1) = 4; size(2) = 4",
            "at(2, 0, 1, 2) = 1; at(2, 0, 2, 1) = 0; at(2, 1, 2, 3) = 1; at(2, 1, 3, 2) = 0; at(2, 0, 0, 3) = 0",
            "told(3) = 8; times(3, 2, 1) = -3; times(0, 0, 1) = 4; at(0, 0, 1, 2) = 1; at(0, 0, 2, 1) = 0");
        run("8 times, the order counts", "sizes(0, 3) = 3; sizes(1, 2) = 2; sets(0, 0, 0, 2, 1) = 0",
            "sets(1, 0, 0, 1, 1) = 0; times(2, 0, 1) = 6; at(2, 0, 0, 5) = 1; times(3, 1, 0) = 6; at(3, 0, 0, 5) = 1",
            "sets(1, 0, 0, 1, 0) = 1; sets(1, 0, 1, 0, 1) = 0; times(2, 0, 1) = 6; at(2, 0, 1, 4) = 1",
            "at(2, 0, 3, 2) = 0; times(3, 1, 0) = 6; at(3, 0, 3, 2) = 1; at(3, 0, 1, 4) = 0");
        run("8 times, wrong", "times(4, 0, 0) = -2; times(0, 4, 0) = -2; times(0, 0, 4) = -2; times(-1, 0, 0) = -2",
            "times(0, -1, 0) = -2; times(0, 0, -1) = -2; sizes(0, 3) = 3; times(1, 0, 0) = -3; times(0, 0, 4) = -2",
            "begins(3) = 3; sizes(0, 3) = 3; sizes(1, 2) = 2; times(2, 0, 1) = -3; size(2) = 1; told(3) = 4");
    }

    private static void over() {
        run("9 over", "sizes(0, 3) = 3; sets(0, 0, 0, 2, 1) = 0; sets(0, 1, 1, 0, 1) = 0; over(1, 0) = 3; size(1) = 3",
            "at(1, 0, 2, 0) = 1; at(1, 0, 0, 2) = 0; at(1, 1, 0, 1) = 1; over(0, 0) = 3; at(0, 0, 2, 0) = 1",
            "at(0, 0, 0, 2) = 0; told(3) = 5; over(4, 0) = -2; over(0, 4) = -2; over(-1, 0) = -2; over(0, -1) = -2",
            "told(3) = 5");
    }

    /** A chain e0 -> e1 -> e2 under a, with b fixing e2. */
    private static final String CHAIN =
        "sizes(0, 3) = 3; sets(0, 0, 0, 1, 1) = 0; sets(0, 0, 1, 2, 1) = 0; sets(0, 1, 2, 2, 1) = 0";

    private static void parts() {
        run("10 parts", CHAIN, "parts(1, 0, 2) = 2; size(1) = 2; at(1, 0, 0, 1) = 1; at(1, 0, 0, 0) = 0",
            "at(1, 1, 1, 1) = 1; parts(0, 0, 4) = 1; size(0) = 1; at(0, 1, 0, 0) = 1; at(0, 0, 0, 0) = 0; told(3) = 6");
        // e0 + 2 e1 -> under a to itself: the basis vector is e0 + 2 e1, and 2 e0 + e1 spins the same space
        run("10 parts modulo 3", "begins(3) = 3; sizes(0, 2) = 2; sets(0, 0, 0, 1, 1) = 0; sets(0, 0, 1, 0, 1) = 0",
            "parts(1, 0, 5) = 1; at(1, 0, 0, 0) = 2; parts(1, 0, 7) = 1; at(1, 0, 0, 0) = 2; parts(1, 0, 4) = 1",
            "at(1, 0, 0, 0) = 1; parts(1, 0, 1) = 2; at(1, 0, 0, 1) = 1");
        run("10 parts, wrong", "parts(1, 0, 0) = -3; parts(4, 0, 0) = -2; parts(-1, 0, 1) = -2; parts(0, 4, 1) = -2",
            "parts(0, -1, 1) = -2; parts(0, 0, 2) = -2; parts(0, 0, -1) = -2; told(1) = 1; told(3) = 0");
    }

    private static void rests() {
        run("11 rests", CHAIN, "rests(1, 0, 4) = 2; at(1, 0, 0, 1) = 1; at(1, 0, 1, 1) = 0; at(1, 1, 1, 1) = 0",
            "rests(2, 0, 0) = 3; at(2, 0, 0, 1) = 1; at(2, 1, 2, 2) = 1; rests(3, 0, 1) = -3; size(3) = 1",
            "rests(0, 0, 2) = 1; at(0, 0, 0, 0) = 0; told(3) = 7");
        // the quotient by e0 + e1: e1 stays, and e1 * a = e0 = (e0 + e1) - e1
        run("11 rests modulo 3", "begins(3) = 3; sizes(0, 2) = 2; sets(0, 0, 0, 1, 1) = 0; sets(0, 0, 1, 0, 1) = 0",
            "rests(1, 0, 4) = 1; at(1, 0, 0, 0) = 2; rests(1, 0, 5) = 1; at(1, 0, 0, 0) = 1");
        run("11 rests, wrong", "rests(1, 0, 1) = -3; rests(1, 0, 0) = 1; rests(4, 0, 1) = -2; rests(0, 4, 0) = -2",
            "rests(-1, 0, 0) = -2; rests(0, -1, 0) = -2; rests(0, 0, 2) = -2; rests(0, 0, -1) = -2; told(3) = 1");
    }

    private static void sizeAtMoved() {
        run("12 size", "sizes(2, 4) = 4; size(2) = 4; size(0) = 1; size(4) = -2; size(-1) = -2; told(0) = 2; told(3) = 1");
        run("13 at", CHAIN, "at(0, 0, 0, 1) = 1; at(0, 0, 1, 0) = 0; at(0, 1, 2, 2) = 1; at(0, 0, 3, 0) = -2",
            "at(0, 0, 0, 3) = -2; at(0, 2, 0, 0) = -2; at(4, 0, 0, 0) = -2; at(-1, 0, 0, 0) = -2; at(0, -1, 0, 0) = -2",
            "at(0, 0, -1, 0) = -2; at(0, 0, 0, -1) = -2; told(3) = 4");
        run("14 moved", CHAIN, "moved(0, 0, 1) = 2; moved(0, 0, 3) = 6; moved(0, 0, 4) = 0; moved(0, 1, 7) = 4",
            "moved(0, 0, 0) = 0; moved(0, 0, 8) = -2; moved(0, 0, -1) = -2; moved(0, 2, 0) = -2; moved(0, -1, 0) = -2",
            "moved(4, 0, 0) = -2; moved(-1, 0, 0) = -2; told(3) = 4");
        run("14 moved modulo 3", "begins(3) = 3; sizes(0, 2) = 2; sets(0, 0, 0, 0, 1) = 0; sets(0, 0, 0, 1, 2) = 0",
            "sets(0, 0, 1, 1, 2) = 0; moved(0, 0, 1) = 7; moved(0, 0, 2) = 5; moved(0, 0, 3) = 6; moved(0, 0, 4) = 4",
            "moved(0, 0, 8) = 8; moved(0, 0, 9) = -2");
    }

    private static void spunRow() {
        run("15 spun", CHAIN, "spun(0, 0) = 0; spun(0, 4) = 1; spun(0, 6) = 2; spun(0, 5) = 3; spun(0, 8) = -2",
            "spun(0, -1) = -2; spun(4, 0) = -2; spun(-1, 0) = -2; spun(1, 1) = 1; spun(1, 2) = -2; told(3) = 4");
        run("16 row", CHAIN, "row(0, 6, 0) = 2; row(0, 6, 1) = 4; row(0, 6, 2) = -1; row(0, 0, 0) = -1",
            "row(0, 7, 2) = 4; row(0, 7, 3) = -1; row(0, 7, 2147483647) = -1; row(0, 7, -1) = -2; row(0, 8, 0) = -2",
            "row(0, -1, 0) = -2; row(4, 0, 0) = -2; row(-1, 0, 0) = -2; told(0) = 5; told(3) = 4");
        // 2 e0 + e1 spins the line of e0 + 2 e1
        run("16 row modulo 3", "begins(3) = 3; sizes(0, 3) = 3; row(0, 5, 0) = 7; row(0, 7, 0) = 7; row(0, 18, 0) = 9",
            "row(0, 14, 0) = 25; row(0, 26, 0) = 13; row(0, 26, 1) = -1");
    }

    private static void simpleLeast() {
        run("17 simple", "simple(0) = 1; sizes(0, 2) = 2; simple(0) = 0; sets(0, 0, 0, 1, 1) = 0; simple(0) = 0",
            "sets(0, 0, 1, 0, 1) = 0; simple(0) = 0; sets(0, 0, 1, 1, 1) = 0; simple(0) = 1; simple(4) = -2",
            "simple(-1) = -2; told(3) = 4");
        // x^2 + 1 has no root modulo 3, but one modulo 2
        run("17 simple modulo 3", "begins(3) = 3; sizes(0, 2) = 2; sets(0, 0, 0, 1, 1) = 0; sets(0, 0, 1, 0, 2) = 0",
            "simple(0) = 1; least(0) = 2; sets(0, 0, 1, 0, 1) = 2; simple(0) = 0; least(0) = 1");
        run("18 least", "least(0) = 1; sizes(0, 2) = 2; least(0) = 1; sets(0, 0, 0, 1, 1) = 0; sets(0, 0, 1, 0, 1) = 0",
            "sets(0, 0, 1, 1, 1) = 0; least(0) = 2; adds(1, 0, 0) = 4; least(1) = 2; adds(2, 3, 1) = 5; least(2) = 1",
            "least(4) = -2; least(-1) = -2; told(3) = 6");
    }

    /** The field with 4 elements as module 0, and its sum with two different modules of size 1. */
    private static final String FOUR = "sizes(0, 2) = 2; sets(0, 0, 0, 1, 1) = 0; sets(0, 0, 1, 0, 1) = 0; "
        + "sets(0, 0, 1, 1, 1) = 0; sets(1, 1, 0, 0, 1) = 0; adds(2, 1, 0) = 3; adds(3, 1, 2) = 4; sizes(2, 1) = 1; "
        + "adds(3, 3, 2) = 5";

    private static void factors() {
        run("19 factors", "factors(0) = 1; sizes(0, 6) = 6; factors(0) = 6", FOUR, "factors(3) = 4; factors(0) = 1",
            "factors(4) = -2; factors(-1) = -2");
        run("20 factor", FOUR, "factor(3, 0, 0) = 1; factor(3, 1, 0) = 1; factor(3, 2, 0) = 1; factor(3, 3, 0) = 2",
            "factor(3, 0, 1) = 1; factor(3, 1, 1) = 2; factor(3, 2, 1) = 2; factor(3, 3, 1) = 1",
            "factor(3, 0, 2) = 1; factor(3, 3, 2) = 2; factor(3, 0, 3) = 1; factor(3, 1, 3) = 2; factor(3, 3, 3) = 2",
            "factor(3, 4, 0) = -1; factor(3, 2147483647, 3) = -1; factor(3, 4, 4) = -2; factor(3, 0, -1) = -2",
            "factor(3, -1, 0) = -2; factor(4, 0, 0) = -2; factor(-1, 0, 0) = -2; told(0) = 5");
        // the factor e2 of the chain is at its bottom, the two others are not all
        run("20 factor, from it to the module", CHAIN, "factor(0, 0, 1) = 2; factor(0, 0, 3) = 0; factor(0, 2, 3) = 1");
        run("21 telling", FOUR, "telling(3, 0, 0) = 0; telling(3, 0, 1) = 0; telling(3, 0, 2) = -1",
            "telling(3, 1, 0) = 0; telling(3, 1, 1) = 1; telling(3, 2, 1) = 1; telling(3, 3, 0) = 0",
            "telling(3, 3, 1) = 1; telling(3, 3, 2) = 1; telling(3, 3, 3) = 1; telling(3, 3, 4) = 0",
            "telling(3, 3, 7) = 0; telling(3, 3, 8) = -1; telling(3, 4, 0) = -1; telling(3, 2147483647, 0) = -1",
            "telling(3, 0, 2147483647) = -1; telling(3, -1, 0) = -2; telling(3, 0, -1) = -2; telling(4, 0, 0) = -2",
            "telling(-1, 0, 0) = -2; told(0) = 4");
    }

    /** Two types whose forms differ in the last row of b alone, 1 0 0 and 1 1 1. */
    private static void lateDifference() {
        run("21 telling, forms that differ late", "sizes(0, 3) = 3; draws(0, 9) = 13; sizes(1, 3) = 3; draws(1, 16) = 11",
            "simple(0) = 1; simple(1) = 1; common(0, 1) = 0; adds(2, 1, 0) = 6; factors(2) = 2; factor(2, 0, 1) = 1",
            "telling(2, 0, 0) = 0; telling(2, 0, 14) = 1; telling(2, 1, 14) = 1; telling(2, 0, 15) = 1",
            "telling(2, 0, 16) = 0; telling(2, 0, 17) = 0; telling(2, 1, 16) = 1; telling(2, 1, 17) = 1",
            "telling(2, 1, 18) = -1; common(2, 0) = 1; common(2, 1) = 1; ways(0, 1) = 0; ways(2, 2) = 2");
    }

    private static void commonWays() {
        run("22 common", FOUR, "common(3, 3) = 4; common(0, 3) = 1; common(3, 1) = 1; common(0, 1) = 0",
            "adds(2, 1, 1) = 2; common(2, 3) = 2; adds(2, 2, 1) = 3; common(2, 3) = 2; common(3, 2) = 2",
            "common(4, 0) = -2; common(0, 4) = -2; common(-1, 0) = -2; common(0, -1) = -2");
        run("23 ways", FOUR, "ways(0, 0) = 2; ways(0, 3) = 2; ways(3, 0) = 2; ways(1, 3) = 2; ways(3, 3) = 7",
            "ways(0, 1) = 0; ways(4, 0) = -2; ways(0, 4) = -2; ways(-1, 0) = -2; ways(0, -1) = -2");
        // the whole is generated by e0, whose image may be e0 or e1 times anything; e1 alone is at the bottom
        run("23 ways, both directions", "sizes(0, 2) = 2; sets(0, 0, 0, 1, 1) = 0; sets(0, 1, 1, 1, 1) = 0",
            "ways(0, 0) = 1; ways(0, 1) = 1; ways(1, 0) = 0; sets(1, 1, 0, 0, 1) = 0; ways(1, 0) = 1; ways(0, 1) = 0",
            "sizes(2, 6) = 6; sizes(1, 1) = 1; ways(2, 2) = 36; ways(2, 1) = 6; ways(1, 2) = 6");
    }

    private static void layersSpaces() {
        run("24 layer", CHAIN, "layer(0, 0) = 1; layer(0, 1) = 1; layer(0, 2) = 1; layer(0, 3) = -1",
            "layer(0, 2147483647) = -1; layer(0, -1) = -2; layer(4, 0) = -2; layer(-1, 0) = -2; layer(1, 0) = 1",
            "layer(1, 1) = -1; sizes(1, 6) = 6; layer(1, 0) = 6; layer(1, 1) = -1; told(3) = 5");
        run("24 layer, simple spaces of several sizes", FOUR, "layer(3, 0) = 5; layer(3, 1) = -1",
            "sets(3, 1, 2, 0, 1) = 0; layer(3, 0) = 3; layer(3, 1) = 2; layer(3, 2) = -1");
        run("25 spaces", CHAIN, "spaces(0, 0) = 1; spaces(0, 1) = 1; spaces(0, 2) = 1; spaces(0, 3) = 1; spaces(0, 4) = 0",
            "spaces(0, 6) = 0; spaces(0, 7) = -2; spaces(0, -1) = -2; spaces(4, 0) = -2; spaces(-1, 0) = -2",
            "sizes(1, 4) = 4; spaces(1, 0) = 1; spaces(1, 1) = 15; spaces(1, 2) = 35; spaces(1, 3) = 15; spaces(1, 4) = 1",
            "sizes(1, 5) = 5; spaces(1, 0) = -3; spaces(1, 6) = -3; spaces(1, 7) = -2; told(1) = 2");
        run("25 spaces modulo 3", "begins(3) = 3; sizes(0, 4) = 4; spaces(0, 1) = 40; spaces(0, 2) = 130",
            "spaces(0, 3) = 40; spaces(0, 4) = 1; sizes(0, 2) = 2; spaces(0, 1) = 4; sets(0, 0, 0, 0, 1) = 0",
            "spaces(0, 1) = 2");
    }

    private static void text() {
        run("26 type", "type(0) = 1; type(127) = 2; type(128) = -2; type(-1) = -2; told(5) = 2; told(3) = 0");
        StringBuilder full = new StringBuilder("type(97) = 1");
        for (int i = 2; i <= 40; i++) {
            full.append("; type(").append(i % 2 == 0 ? 43 : 97).append(") = ").append(i);
        }
        run("26 type, no room", full.toString(), "type(97) = -4; type(128) = -2; type(97) = -4; told(2) = 2; told(0) = 1",
            "told(5) = 40; tells() = -50; clear() = 40; type(97) = 1; tells() = 1");
        run("27 clear", "clear() = 0; type(98) = 1; type(98) = 2; clear() = 2; told(5) = 0; clear() = 0; tells() = -10",
            "told(0) = 0; told(3) = 0");
    }

    private static void tells() {
        reads("", -10);
        reads("a", 1);
        reads("2", 1);
        reads("ab+ba+1", 3);
        reads("1aaaaaa+bbbbbb", 2);
        reads("aaaaaaa", -16);
        reads("1aaaaaaa", -17);
        reads("a+aaaaaab", -18);
        reads("a+", -12);
        reads("a+a+", -14);
        reads("+", -10);
        reads("+a", -10);
        reads("a++a", -12);
        reads("12", -11);
        reads("a1", -11);
        reads("a1+", -11);
        reads("3", -10);
        reads("/", -10);
        reads("c", -10);
        reads("`", -10);
        reads("A", -10);
        reads("a b", -11);
        reads("0+1+2+0+1+2+0+1+2+0+1+2+0+1+2+0+1+2+0+1", 20);
        reads("0+1+2+0+1+2+0+1+2+0+1+2+0+1+2+0+1+2+0+1+", -50);
        run("28 tells, the text stays and the word stays at a fault", typed("b"), "tells() = 1; tells() = 1; told(5) = 1",
            "sets(0, 1, 0, 0, 1) = 0; word(0, 0, 0) = 1; type(43) = 2; tells() = -12; word(0, 0, 0) = 1; type(98) = 3",
            "word(0, 0, 0) = 1; tells() = 2; word(0, 0, 0) = 0; clear() = 3; word(0, 0, 0) = 0; tells() = -10",
            "word(0, 0, 0) = 0; told(0) = 0; told(1) = 0; told(2) = 0");
    }

    private static void words() {
        // a sends e0 to e1, b sends e1 to e2: ab sends e0 to e2, and ba nothing anywhere
        String two = "sizes(0, 3) = 3; sets(0, 0, 0, 1, 1) = 0; sets(0, 1, 1, 2, 1) = 0";
        run("29 word", two, typed("ab"), "tells() = 1; word(0, 0, 2) = 1; word(0, 0, 1) = 0; clear() = 2", typed("ba"),
            "tells() = 1; word(0, 0, 2) = 0; word(0, 1, 1) = 0; clear() = 2", typed("1+a+b+ab"),
            "tells() = 4; word(0, 0, 0) = 1; word(0, 0, 1) = 1; word(0, 0, 2) = 1; word(0, 1, 2) = 1; word(0, 2, 0) = 0",
            "word(0, 3, 0) = -2; word(0, 0, 3) = -2; word(0, -1, 0) = -2; word(0, 0, -1) = -2; word(4, 0, 0) = -2",
            "word(-1, 0, 0) = -2; told(3) = 3");
        run("29 word, the digit modulo p", typed("2a+2"), "tells() = 2; sets(0, 0, 0, 0, 1) = 0; word(0, 0, 0) = 0",
            "begins(3) = 3; word(0, 0, 0) = 2; sets(0, 0, 0, 0, 1) = 0; word(0, 0, 0) = 1; clear() = 4", typed("0a"),
            "tells() = 1; word(0, 0, 0) = 0; clear() = 2", typed("2aa+a+1"), "tells() = 3; word(0, 0, 0) = 1",
            "sets(0, 0, 0, 0, 2) = 1; word(0, 0, 0) = 2");
        run("30 nulls", two, "nulls(0, 0) = 2; nulls(0, 1) = 2; nulls(0, 2) = 2", typed("b"), "tells() = 1; nulls(0, 0) = 2",
            "nulls(0, 1) = 1; nulls(0, 2) = 3; clear() = 1", typed("1"), "tells() = 1; nulls(0, 0) = 0; nulls(0, 1) = -1",
            "nulls(0, 2) = 0; clear() = 1", typed("0"), "tells() = 1; nulls(0, 0) = 3; nulls(0, 1) = 1; nulls(0, 2) = 3",
            "nulls(0, 3) = -2; nulls(0, -1) = -2; nulls(4, 0) = -2; nulls(-1, 0) = -2; told(0) = 4");
        // v * a = 0 for (1, 1) modulo 2 and for (1, 2) and (2, 1) modulo 3
        run("30 nulls, the smallest number", "sizes(0, 2) = 2; sets(0, 0, 0, 0, 1) = 0; sets(0, 0, 1, 0, 1) = 0",
            "nulls(0, 1) = 3; begins(3) = 3; sizes(0, 2) = 2; sets(0, 0, 0, 0, 1) = 0; sets(0, 0, 1, 0, 1) = 0",
            "nulls(0, 1) = 5; nulls(0, 0) = 1");
    }

    private static void polys() {
        // x^2 + x + 1, then (x - 1) (x - 2) = x^2 + 2 modulo 3
        run("31 poly", FOUR, "poly(0, 0) = 1; poly(0, 1) = 1; poly(0, 2) = 1; poly(0, 3) = -2; poly(0, -1) = -2",
            "poly(4, 0) = -2; poly(-1, 0) = -2; sizes(0, 6) = 6; poly(0, 6) = 1; poly(0, 5) = 0; poly(0, 0) = 0",
            "begins(3) = 3; sizes(0, 2) = 2; sets(0, 0, 0, 0, 1) = 0; sets(0, 0, 1, 1, 2) = 0; poly(0, 0) = 2",
            "poly(0, 1) = 0; poly(0, 2) = 1; poly(1, 0) = 0; poly(1, 1) = 1; sets(1, 0, 0, 0, 1) = 0; poly(1, 0) = 2");
        // the unit matrix: (x - 1)^5 = x^5 + x^4 + x^3 + 2 x^2 + 2 x + 2 modulo 3, (x + 1)^6 = x^6 + x^4 + x^2 + 1 modulo 2
        run("31 poly, where the size is not below p", typed("1"), "tells() = 1; sizes(0, 6) = 6; poly(0, 0) = 1",
            "poly(0, 1) = 0; poly(0, 2) = 1; poly(0, 3) = 0; poly(0, 4) = 1; poly(0, 5) = 0; poly(0, 6) = 1",
            "begins(3) = 3; sizes(0, 5) = 5; poly(0, 0) = 2; poly(0, 1) = 2; poly(0, 2) = 2; poly(0, 3) = 1",
            "poly(0, 4) = 1; poly(0, 5) = 1");
    }

    private static void back() {
        run("32 back", "back() = -3; told(1) = 1; begins(3) = 3; sizes(0, 2) = 2; sets(0, 0, 0, 1, 2) = 0; draws(0, 5) = 6",
            "back() = 3; at(0, 0, 0, 1) = 2; back() = 2; at(0, 0, 0, 1) = 0; back() = 1; size(0) = 1; told(4) = 3",
            "back() = 0; told(4) = 2; back() = -3; told(1) = 2; told(3) = 0");
        run("32 back, the latest 8 changes", "sizes(0, 1) = 1; sizes(0, 2) = 2; sizes(0, 3) = 3; sizes(0, 4) = 4",
            "sizes(0, 5) = 5; sizes(0, 6) = 6; sizes(1, 2) = 2; sizes(1, 3) = 3; told(3) = 8; sizes(1, 4) = 4",
            "sizes(1, 5) = 5; told(3) = 8; back() = 7; size(1) = 4; back() = 6; sizes(2, 2) = 2; told(3) = 7",
            "back() = 6; size(2) = 1; back() = 5; size(1) = 2; back() = 4; size(1) = 1; back() = 3; size(0) = 5",
            "back() = 2; back() = 1; size(0) = 3; back() = 0; size(0) = 2; back() = -3; size(0) = 2");
        run("32 back, every kind of change", "sizes(0, 2) = 2; draws(0, 9) = 4; turns(0, 0, 1, 1) = 5; adds(1, 0, 0) = 4",
            "times(2, 0, 0) = 4; over(3, 0) = 2; parts(3, 0, 1) = 2; rests(3, 0, 0) = 2; told(3) = 8",
            "back() = 7; back() = 6; size(3) = 2; back() = 5; size(3) = 1; back() = 4; size(2) = 1; back() = 3; size(1) = 1");
        run("32 back leaves the text, the word and the errors", "sizes(0, 2) = 2; type(98) = 1; tells() = 1; size(9) = -2",
            "back() = 0; told(5) = 1; told(0) = 1; sets(0, 1, 0, 0, 1) = 0; word(0, 0, 0) = 1; back() = 0; word(0, 0, 0) = 0");
        run("32 back, errors are no changes", "sizes(0, 9) = -2; parts(0, 0, 0) = -3; rests(0, 0, 1) = -3; told(3) = 0",
            "type(97) = 1; tells() = 1; clear() = 1; told(3) = 0; back() = -3");
    }

    private static void told() {
        run("33 told", "told(0) = 0; told(6) = -2; told(-1) = -2; told(0) = 2; told(2147483647) = -2; told(0) = 3",
            "told(-2147483648) = -2; told(0) = 4; told(1) = 0; told(2) = 0; told(3) = 0; told(4) = 2; told(5) = 0",
            "parts(0, 0, 0) = -3; told(1) = 1; begins(3) = 3; told(4) = 3; told(3) = 1; type(0) = 1; told(5) = 1");
        run("33 told, NONE is no error", "row(0, 1, 1) = -1; factor(0, 1, 0) = -1; telling(0, 0, 2) = -1; layer(0, 1) = -1",
            "type(49) = 1; tells() = 1; nulls(0, 1) = -1; type(99) = 2; tells() = -11; told(0) = 0; told(1) = 0; told(2) = 0");
    }

    private static void digest() {
        int[] first = {0, 0, 0, 0, 2, 0, 1, 0, 0, 1, 0, 0, 1, 0, 0, 1, 0, 0, 0};
        run("34 digest of a new object", "digest() = " + folded(first));
        int[] before = {1, 2, 0, 3, 3, 4, 2, 0, 2, 0, 0, 0, 0, 0, 0, 1, 0, 0, 1, 0, 0, 1, 0, 0, 2, 0, 0, 2};
        int[] after = {1, 2, 0, 4, 3, 4, 2, 0, 2, 0, 0, 0, 0, 0, 1, 1, 0, 0, 1, 0, 0, 1, 0, 0, 2, 2, 0, 2};
        run("34 digest", "begins(3) = 3; sizes(0, 2) = 2; sets(0, 0, 0, 1, 2) = 0; size(4) = -2; parts(0, 0, 0) = -3",
            "parts(0, 0, 0) = -3", typed("2+ab"), "tells() = 2; digest() = " + folded(before),
            "sets(0, 1, 1, 1, 1) = 0; digest() = " + folded(after), "digest() = " + folded(after),
            "back() = 3; digest() = " + folded(before));
    }

    private static long folded(int[] numbers) {
        long h = 1562;
        for (int v : numbers) {
            h = 31 * h + v;
        }
        return h;
    }

    public static void main(String[] args) {
        newObject();
        begins();
        sizes();
        sets();
        draws();
        turns();
        adds();
        times();
        over();
        parts();
        rests();
        sizeAtMoved();
        spunRow();
        simpleLeast();
        factors();
        lateDifference();
        commonWays();
        layersSpaces();
        text();
        tells();
        words();
        polys();
        back();
        told();
        digest();
        CHECK.due("NONE", SpunModules.NONE, -1);
        CHECK.due("BAD", SpunModules.BAD, -2);
        CHECK.due("NO", SpunModules.NO, -3);
        CHECK.due("FULL", SpunModules.FULL, -4);
        CHECK.ends();
    }
}
