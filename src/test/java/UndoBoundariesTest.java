import java.io.IOException;

/** The boundary cases that promises 32 to 34 name, sentence by sentence. */
public final class UndoBoundariesTest {
    private static final Sentences DOC = new Sentences();
    private static final int BAD = SpunModules.BAD;
    private static final int NO = SpunModules.NO;

    private static void back() {
        DOC.says(32, "Undoes the latest change that is not undone yet and still kept.");
        DOC.runs("sizes(0, 2); sizes(0, 3); sizes(0, 4); back() = 2; size(0) = 3; back() = 1; size(0) = 2; back() = 0; size(0) = 1");
        // what was undone is gone: the next change takes its place
        DOC.runs("sizes(0, 2); sizes(0, 3); back() = 1; sizes(1, 5); told(3) = 2; back() = 1; size(1) = 1; size(0) = 2; back() = 0",
            "size(0) = 1; back() = -3");
        keeps();
        eachModule();

        DOC.says(32, "Returns how many more can be undone");
        for (int changes = 1; changes <= 20; changes++) {
            StringBuilder line = new StringBuilder();
            for (int i = 0; i < changes; i++) {
                line.append("sets(0, 0, 0, 0, ").append(i % 2).append("); ");
            }
            for (int left = Math.min(changes, 8) - 1; left >= 0; left--) {
                line.append("told(3) = ").append(left + 1).append("; back() = ").append(left).append("; ");
            }
            DOC.runs(line.toString(), "told(3) = 0; back() = -3; told(3) = 0; back() = -3; told(1) = 2");
        }

        DOC.says(32, "errors: NO if there is none");
        DOC.refuses("", "back()", NO);
        DOC.refuses("sizes(0, 9); parts(0, 0, 0); type(97); tells()", "back()", NO);
        DOC.refuses("sizes(0, 2); back()", "back()", NO);
        DOC.refuses("begins(3); back()", "back()", NO);
        DOC.refuses("sizes(0, 2);".repeat(8) + "back();".repeat(8), "back()", NO);
        DOC.refuses("sizes(0, 2);".repeat(9) + "back();".repeat(8), "back()", NO);
        DOC.refuses("sizes(0, 2);".repeat(9) + "back();".repeat(9), "back()", NO);
        DOC.runs("sizes(0, 2);".repeat(8) + "back();".repeat(7), "back() = 0; size(0) = 1; back() = -3; size(0) = 1");
        DOC.runs("sizes(0, 2);".repeat(9) + "back();".repeat(7), "back() = 0; size(0) = 2; back() = -3; size(0) = 2; told(1) = 1");
    }

    /** Wherever the eight kept states begin: steps forth and back, against sizes that are written down. */
    private static void keeps() {
        for (int start = 0; start <= 17; start++) {
            for (int undone = 1; undone <= 8; undone++) {
                int[] sizes = new int[40];
                sizes[0] = 1;
                int now = 0;
                StringBuilder line = new StringBuilder();
                for (int i = 0; i < start + undone; i++) {
                    now++;
                    sizes[now] = 1 + (i * i + start) % 6;
                    line.append("sizes(2, ").append(sizes[now]).append("); ");
                }
                int kept = Math.min(now, 8);
                for (int i = 0; i < undone; i++) {
                    now--;
                    kept--;
                    line.append("back() = ").append(kept).append("; size(2) = ").append(sizes[now]).append("; ");
                }
                for (int i = 0; i < 3; i++) {
                    now++;
                    kept = Math.min(kept + 1, 8);
                    sizes[now] = 1 + (i + undone) % 6;
                    line.append("sizes(2, ").append(sizes[now]).append("); told(3) = ").append(kept).append("; ");
                }
                while (kept > 0) {
                    now--;
                    kept--;
                    line.append("back() = ").append(kept).append("; size(2) = ").append(sizes[now]).append("; ");
                }
                DOC.runs(line.toString(), "back() = -3; size(2) = " + sizes[now]);
            }
        }
    }

    /** All four modules, all their entries and p come back. */
    private static void eachModule() {
        for (int p = 2; p <= 3; p++) {
            for (int q = 2; q <= 3; q++) {
                StringBuilder full = new StringBuilder("begins(" + p + ")");
                for (int k = 0; k < 4; k++) {
                    full.append("; sizes(").append(k).append(", ").append(States.largest(p) - k).append("); draws(").append(k).append(", ")
                        .append(50 + k).append(")");
                }
                SpunModules x = Refusals.made(full.toString());
                long state = Refusals.present(x);
                x.begins(q);
                DOC.due("begins(" + q + "), then back()", x.back(), 7);
                DOC.due("begins(" + q + ") is undone: the checksum of the state", Refusals.present(x), state);
                DOC.due("begins(" + q + ") is undone: told(4)", x.told(4), p);
                Refusals.makes(x, "begins(" + q + "); sizes(0, 5); draws(0, 3); draws(1, 4); sizes(2, 3); sizes(3, 4); over(3, 0)");
                Refusals.makes(x, "back();back();back();back();back();back();back()");
                DOC.due("seven changes are undone: the checksum of the state", Refusals.present(x), state);
            }
        }
    }

    private static void told() {
        DOC.says(33, "`what`: 0, 1, 2 how many calls have returned the error BAD, NO, FULL; 3 how many changes can be undone; 4 p; 5 bytes "
            + "of the text");
        DOC.ranges("", "told(?)", 0, 5);
        DOC.ranges(States.TWO, "told(?)", 0, 5);
        DOC.ranges(States.THREE, "told(?)", 0, 5);
        DOC.runs("told(0) = 0; size(4); told(0) = 1; size(-1); told(0) = 2; told(1) = 0; back(); told(1) = 1; parts(0, 0, 0); told(1) = 2",
            "told(2) = 0; told(0) = 2; told(3) = 0; told(5) = 0; told(4) = 2");
        StringBuilder full = new StringBuilder(States.typed("a".repeat(40)));
        for (int i = 1; i <= 10; i++) {
            full.append("; type(97) = -4; told(2) = ").append(i);
        }
        DOC.runs(full.toString(), "told(0) = 0; told(1) = 0; told(5) = 40; clear() = 40; told(5) = 0; told(2) = 10");
        DOC.runs("told(3) = 0; sizes(0, 1); told(3) = 1", "sizes(0, 1);".repeat(6), "told(3) = 7; sizes(0, 1); told(3) = 8; sizes(0, 1)",
            "told(3) = 8; back(); told(3) = 7; sizes(0, 9); told(3) = 7");
        DOC.runs("told(4) = 2; begins(3); told(4) = 3; begins(4); told(4) = 3; back(); told(4) = 2");

        DOC.says(33, "Returns it");
        DOC.runs("told(0) = 0; told(1) = 0; told(2) = 0; told(3) = 0; told(4) = 2; told(5) = 0; told(0) = 0");

        DOC.says(33, "errors: BAD (which counts, too)");
        DOC.runs("told(6) = -2; told(0) = 1; told(-1) = -2; told(0) = 2; told(2147483647) = -2; told(-2147483648) = -2; told(0) = 4",
            "told(1) = 0; told(2) = 0; told(3) = 0");
        for (int what : new int[] {-1, 6, 7, Integer.MIN_VALUE, Integer.MAX_VALUE}) {
            DOC.refuses(States.TWO, "told(" + what + ")", BAD);
            DOC.refuses(States.THREE, "told(" + what + ")", BAD);
        }
    }

    private static long folded(int... numbers) {
        long h = 1562;
        for (int v : numbers) {
            h = 31 * h + v;
        }
        return h;
    }

    /** The checksum from the answers of the other calls. */
    private static long fromAnswers(SpunModules x) {
        long h = 1562;
        for (int what = 0; what <= 5; what++) {
            h = 31 * h + x.told(what);
        }
        for (int k = 0; k < 4; k++) {
            int n = x.size(k);
            h = 31 * h + n;
            for (int t = 0; t < 2 * n * n; t++) {
                h = 31 * h + x.at(k, t / n / n, t / n % n, t % n);
            }
        }
        int n = x.size(0);
        for (int t = 0; t < n * n; t++) {
            h = 31 * h + x.word(0, t / n, t % n);
        }
        return h;
    }

    private static void digest() {
        DOC.says(34, "It starts with h = 1562 and for each number v, in the order below, sets h = 31 * h + v in long arithmetic, which "
            + "wraps.");
        long first = folded(0, 0, 0, 0, 2, 0, 1, 0, 0, 1, 0, 0, 1, 0, 0, 1, 0, 0, 0);
        DOC.runs("digest() = " + first + "; digest() = " + first + "; told(0) = 0; told(3) = 0");
        DOC.runs("sets(0, 0, 0, 0, 1)", "digest() = " + folded(0, 0, 0, 1, 2, 0, 1, 1, 0, 1, 0, 0, 1, 0, 0, 1, 0, 0, 1));
        DOC.runs("sets(3, 1, 0, 0, 1)", "digest() = " + folded(0, 0, 0, 1, 2, 0, 1, 0, 0, 1, 0, 0, 1, 0, 0, 1, 0, 1, 0));
        DOC.runs("size(4); back(); begins(3); type(49); tells()",
            "digest() = " + folded(1, 1, 0, 1, 3, 1, 1, 0, 0, 1, 0, 0, 1, 0, 0, 1, 0, 0, 1));

        DOC.says(34, "The numbers are: the results of told() for what = 0 to 5; for each module its size, the entries of a, row by row, and "
            + "those of b, row by row; the entries of the value of the word in module 0, row by row.");
        // with 72 entries in each module and 36 of the word, h wraps many times
        StringBuilder most = new StringBuilder("begins(2)");
        StringBuilder others = new StringBuilder("begins(3)");
        for (int k = 0; k < 4; k++) {
            most.append("; sizes(").append(k).append(", 6); draws(").append(k).append(", ").append(70 + k).append(")");
            others.append("; sizes(").append(k).append(", ").append(5 - k).append("); draws(").append(k).append(", ").append(90 + k).append(")");
        }
        for (String state : new String[] {"", "begins(3)", States.TWO, States.THREE, most.toString(), others.toString(),
            most + ";" + States.typed("2ab+ba+1") + ";tells();type(43);size(4);back();back()",
            others + ";" + States.typed("2ab+ba+1") + ";tells();type(43);told(6);parts(0, 0, 0)",
            States.typed("a".repeat(40)) + ";type(97);type(97);tells();begins(3);sets(0, 0, 0, 0, 2)"}) {
            // a twin answers the other calls, so that digest() is the first call in this state
            SpunModules x = Refusals.made(state);
            SpunModules twin = Refusals.made(state);
            DOC.due(state + ": digest()", x.digest(), fromAnswers(twin));
        }

        DOC.says(34, "Returns the checksum.");
        DOC.runs(States.TWO, "digest() = " + fromAnswers(Refusals.made(States.TWO)), "digest() = " + fromAnswers(Refusals.made(States.TWO)));
    }

    public static void main(String[] args) throws IOException {
        back();
        told();
        digest();
        DOC.ends(32, 34);
    }
}
