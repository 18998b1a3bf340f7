import java.io.IOException;

/** The three examples of the document, call by call, in its own words. */
public final class ExamplesTest {
    private static final Sentences DOC = new Sentences();
    private static final String[] TITLES = {"1. A chain of three invariant subspaces: ",
        "2. Three elements: entries at random, another basis, a dual and a sum: ", "3. A word, its null space and its polynomial: "};
    private static final String[] LINES = {
        "sizes(0, 3) = 3; sets(0, 0, 0, 1, 1) = 0; sets(0, 0, 1, 2, 1) = 0; sets(0, 1, 2, 2, 1) = 0; "
            + "spun(0, 1) = 3; row(0, 1, 0) = 1; row(0, 2, 1) = 4; simple(0) = 0; factors(0) = 3; "
            + "factor(0, 0, 0) = 1; factor(0, 0, 1) = 2; ways(0, 0) = 1; layer(0, 0) = 1; layer(0, 1) = 1; "
            + "spaces(0, 1) = 1; digest() = -7119229357639821593",
        "begins(3) = 3; sizes(1, 2) = 2; draws(1, 77) = 7; at(1, 0, 0, 1) = 2; moved(1, 1, 5) = 0; "
            + "turns(1, 0, 1, 2) = 6; over(2, 1) = 2; adds(3, 1, 2) = 4; times(3, 1, 3) = -3; common(1, 2) = 2; "
            + "least(3) = 1; telling(1, 0, 0) = 2; back() = 5; told(1) = 1; told(3) = 5; parts(0, 1, 0) = -3",
        "type(49) = 1; type(43) = 2; type(97) = 3; type(98) = 4; tells() = 2; sizes(0, 2) = 2; "
            + "sets(0, 0, 0, 1, 1) = 0; sets(0, 1, 1, 0, 1) = 0; word(0, 0, 0) = 0; nulls(0, 0) = 1; "
            + "nulls(0, 1) = 1; poly(0, 0) = 0; poly(0, 1) = 1; type(50) = 5; tells() = -14; rests(1, 0, 0) = 2"};

    public static void main(String[] args) throws IOException {
        DOC.says(Sentences.DESCRIPTION, "Each of them begins with a new object; the results are given behind the calls.");
        DOC.due("calls of the three examples", String.join("; ", LINES).split("; ").length, 48);
        DOC.due("results behind them", String.join("; ", LINES).split(" = ").length - 1, 48);
        for (int i = 0; i < LINES.length; i++) {
            DOC.says(Sentences.DESCRIPTION, TITLES[i] + LINES[i] + ".");
            DOC.runs(LINES[i]);
        }
        DOC.ends(1, 0);
    }
}
