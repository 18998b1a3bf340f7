import java.io.IOException;
import java.nio.file.Files;
import java.nio.file.Path;
import java.util.ArrayList;
import java.util.HashMap;
import java.util.List;
import java.util.Map;

/**
 * Whether the tests have quoted the document from its first line to its last. The argument is the file that they have
 * written their quotes to (-Dquotes); .ci/run runs this behind them.
 */
public final class WholeDocument {
    private static final Check CHECK = new Check();
    /** What only parts the text: titles, and the words at the heads of paragraphs and groups of methods. */
    private static final String TITLES = "(?m)^#+ .*$|^```.*$|^---- .*$|^FIELD AND MODULES\\.|^FACTORS\\.|^WORDS\\.|^ERRORS\\.|^Examples:";

    private static Map<Integer, List<String>> quotes(Path file) throws IOException {
        Map<Integer, List<String>> quotes = new HashMap<>();
        for (String line : Files.readAllLines(file)) {
            int tab = line.indexOf('\t');
            quotes.computeIfAbsent(Integer.parseInt(line.substring(0, tab)), any -> new ArrayList<>()).add(line.substring(tab + 1));
        }
        return quotes;
    }

    private static boolean[] quoted(String text, List<String> quotes) {
        boolean[] covered = new boolean[text.length()];
        for (String quote : quotes) {
            for (int at = text.indexOf(quote); at >= 0; at = text.indexOf(quote, at + 1)) {
                for (int i = at; i < at + quote.length(); i++) {
                    covered[i] = true;
                }
            }
        }
        return covered;
    }

    /** Signs between two quotes need no test; letters and digits do. */
    private static void looksThrough(int section, String text, boolean[] covered) {
        StringBuilder left = new StringBuilder();
        for (int i = 0; i <= text.length(); i++) {
            if (i < text.length() && !covered[i]) {
                left.append(text.charAt(i));
            } else if (left.length() > 0) {
                CHECK.holds("section " + section + " is quoted by a test where it says: " + left,
                    left.chars().noneMatch(Character::isLetterOrDigit));
                left.setLength(0);
            }
        }
    }

    public static void main(String[] args) throws IOException {
        if (!Files.isReadable(Sentences.DOCUMENT)) {
            System.out.println(Sentences.DOCUMENT + " is not there: nothing is looked up");
            return;
        }
        Map<Integer, List<String>> quotes = quotes(Path.of(args[0]));
        for (Map.Entry<Integer, String> section : Sentences.sections().entrySet()) {
            String text = Sentences.plain(section.getValue().replaceAll(TITLES, ""));
            looksThrough(section.getKey(), text, quoted(text, quotes.getOrDefault(section.getKey(), List.of())));
        }
        CHECK.ends();
    }
}
