import java.io.IOException;
import java.nio.file.Files;
import java.nio.file.Path;
import java.nio.file.StandardOpenOption;
import java.util.ArrayList;
import java.util.HashMap;
import java.util.List;
import java.util.Map;

/**
 * Tests that belong to sentences of the document: says() quotes a sentence, and the checks behind it are its test.
 * At the end each quoted sentence must stand in the document and must have been tested, and each line of the document
 * that gives an argument's range, an answer or an error must have been quoted.
 */
final class Sentences {
    /** The part of the document before the promises, and the one behind them. */
    static final int DESCRIPTION = 0;
    static final int NOT_PROMISED = 35;
    static final Path DOCUMENT = Path.of("../shared/DOC.md");
    private static final int PROMISES = 34;
    private static final int ALL = 300;

    final Check check = new Check();
    private final Map<Integer, List<String>> quoted = new HashMap<>();
    private String current = "";
    private int checksBefore = 0;

    /** Begins the test of a sentence of a promise, or of the description. */
    void says(int promise, String sentence) {
        endsSentence();
        current = (promise == DESCRIPTION ? "description" : "promise " + promise) + ", \"" + sentence + "\"";
        checksBefore = check.asked();
        quoted.computeIfAbsent(promise, any -> new ArrayList<>()).add(sentence);
    }

    /** Quotes a sentence that leaves something free, so that there is nothing to test. */
    void leavesFree(int promise, String sentence) {
        endsSentence();
        current = "";
        quoted.computeIfAbsent(promise, any -> new ArrayList<>()).add(sentence);
    }

    private void endsSentence() {
        if (!current.isEmpty()) {
            check.holds(current + " has a test", check.asked() > checksBefore);
        }
    }

    /** Makes the calls on a new object and on a new model, so that the answers are known twice. */
    void runs(String... lines) {
        String all = String.join("; ", lines);
        Calls.run(check, new SpunModules(), current, all);
        Calls.run(check, new Model(), current + " (model)", all);
    }

    void due(String call, long got, long want) {
        check.due(current + ": " + call, got, want);
    }

    void refuses(String before, String call, int code) {
        Refusals.refused(check, before, call, code);
    }

    /** The call answers as the model does, leaves the same state, and is not BAD. */
    void allows(String before, String call) {
        SpunModules x = Refusals.made(before);
        Model model = new Model();
        Refusals.makes(model, before);
        String told = before + ": " + call;
        int bad = x.told(0);
        long got = Calls.make(x, call);
        due(told, got, Calls.make(model, call));
        check.holds(current + ": " + told + " is allowed", got != SpunModules.BAD && x.told(0) == bad);
        due(told + ", then digest()", x.digest(), model.digest());
    }

    /** The argument that is written as ? may go from the first to the last value; what is outside is BAD. */
    void ranges(String before, String call, int first, int last) {
        if (first > Integer.MIN_VALUE) {
            refuses(before, with(call, first - 1), SpunModules.BAD);
            refuses(before, with(call, Integer.MIN_VALUE), SpunModules.BAD);
        }
        if (last < Integer.MAX_VALUE) {
            refuses(before, with(call, last + 1), SpunModules.BAD);
            refuses(before, with(call, Integer.MAX_VALUE), SpunModules.BAD);
        }
        if (last - first < ALL) {
            for (int value = first; value <= last; value++) {
                allows(before, with(call, value));
            }
        } else {
            for (int value : new int[] {first, first + 1, last - 1, last}) {
                allows(before, with(call, value));
            }
        }
    }

    private static String with(String call, int value) {
        return call.replace("?", Integer.toString(value));
    }

    /** The call is a change: it can be undone, in this state and as the ninth one, which drops the oldest. */
    void changes(String before, String call) {
        isUndone(before, call);
        isUndone(before + ";sets(3, 0, 0, 0, 1)".repeat(8), call);
        SpunModules x = Refusals.made(before + ";sets(3, 0, 0, 0, 1)".repeat(8));
        Calls.make(x, call);
        for (int left = 7; left >= 0; left--) {
            due(before + ": " + call + " as the ninth change, then back()", x.back(), left);
        }
        due(before + ": " + call + " as the ninth change, then back() to the end", x.back(), SpunModules.NO);
        due(before + ": the first of nine changes stays", x.at(3, 0, 0, 0), 1);
    }

    private void isUndone(String before, String call) {
        SpunModules x = Refusals.made(before);
        long state = Refusals.present(x);
        int kept = x.told(3);
        String told = before + ": " + call;
        check.holds(current + ": " + told + " is no error", noError(Calls.make(x, call)));
        due(told + ", then told(3)", x.told(3), Math.min(kept + 1, 8));
        due(told + ", then back()", x.back(), Math.min(kept, 7));
        check.holds(current + ": " + told + " is undone by back()", Refusals.present(x) == state);
    }

    private static boolean noError(long answer) {
        return answer != SpunModules.BAD && answer != SpunModules.NO && answer != SpunModules.FULL;
    }

    // ---- the document

    /** Prints what was wrong; the promises from the first to the last must have been quoted as a whole. */
    void ends(int first, int last) throws IOException {
        endsSentence();
        if (Files.isReadable(DOCUMENT)) {
            Map<Integer, String> sections = sections();
            for (Map.Entry<Integer, List<String>> entry : quoted.entrySet()) {
                for (String sentence : entry.getValue()) {
                    check.holds("the document says: " + entry.getKey() + ": " + sentence,
                        plain(sections.getOrDefault(entry.getKey(), "")).contains(plain(sentence)));
                }
            }
            for (int promise = first; promise <= last; promise++) {
                quotedAsAWhole(promise, sections.getOrDefault(promise, ""));
            }
        } else {
            System.out.println(DOCUMENT + " is not there: the quotes are not looked up");
        }
        writesQuotes();
        check.ends();
    }

    /** For WholeDocument, which looks whether the tests have quoted all of the document together. */
    private void writesQuotes() throws IOException {
        String file = System.getProperty("quotes");
        if (file == null) {
            return;
        }
        List<String> lines = new ArrayList<>();
        for (Map.Entry<Integer, List<String>> entry : quoted.entrySet()) {
            for (String sentence : entry.getValue()) {
                lines.add(entry.getKey() + "\t" + plain(sentence));
            }
        }
        Files.write(Path.of(file), lines, StandardOpenOption.CREATE, StandardOpenOption.APPEND);
    }

    /** The document's text: what is before the promises, each promise, and what is behind them. */
    static Map<Integer, String> sections() throws IOException {
        String document = Files.readString(DOCUMENT);
        Map<Integer, String> sections = new HashMap<>();
        int from = document.indexOf("## Promise 1:");
        sections.put(DESCRIPTION, document.substring(0, from));
        sections.put(NOT_PROMISED, document.substring(document.indexOf("## Not promised")));
        for (int promise = 1; promise <= PROMISES; promise++) {
            int start = document.indexOf("## Promise " + promise + ":");
            int end = document.indexOf("\n## ", start);
            sections.put(promise, document.substring(start, end));
        }
        return sections;
    }

    /** Line ends and blanks are all one. */
    static String plain(String text) {
        return text.replaceAll("\\s+", " ").trim();
    }

    /** Each range of an argument, and each clause of what is returned. */
    private void quotedAsAWhole(int promise, String section) {
        for (String line : section.split("\n")) {
            if (line.startsWith("- `")) {
                isQuoted(promise, line.substring(2));
            } else if (line.startsWith("Returns ") && line.contains("errors:")) {
                for (String clause : line.substring(0, line.length() - 1).split("; ")) {
                    isQuoted(promise, clause);
                }
            }
        }
    }

    private void isQuoted(int promise, String clause) {
        boolean found = false;
        for (String sentence : quoted.getOrDefault(promise, List.of())) {
            found |= plain(sentence).contains(plain(clause));
        }
        check.holds("promise " + promise + " is tested where it says: " + clause, found);
    }
}
