import java.io.IOException;
import java.lang.reflect.Method;
import java.lang.reflect.Modifier;
import java.nio.file.Files;
import java.nio.file.Path;
import java.util.ArrayList;
import java.util.List;
import java.util.Set;
import java.util.TreeSet;
import java.util.regex.Matcher;
import java.util.regex.Pattern;

/** What README.md says: its example call by call, all calls and codes, and the names of all tests. */
public final class ReadmeTest {
    private static final Check CHECK = new Check();
    private static final Pattern CALL = Pattern.compile("^x\\.(\\w+\\([^)]*\\)); +// (-?\\d+)(:.*)?$", Pattern.MULTILINE);
    private static final Pattern LINE = Pattern.compile("^\\| `(\\w+)\\(([^)]*)\\)` \\|", Pattern.MULTILINE);
    private static final Pattern CODE = Pattern.compile("^\\| `([A-Z]+)` \\| (-\\d) \\|", Pattern.MULTILINE);
    private static final Pattern TEST = Pattern.compile("^\\| (\\w+) \\|", Pattern.MULTILINE);

    private static void example(String readme) {
        SpunModules x = new SpunModules();
        Matcher call = CALL.matcher(readme);
        int calls = 0;
        while (call.find()) {
            calls++;
            CHECK.due("README.md: " + call.group(1), Calls.make(x, call.group(1)), Long.parseLong(call.group(2)));
        }
        CHECK.holds("README.md has an example of " + calls + " calls, each with its answer",
            calls > 10 && calls == readme.split("\nx\\.", -1).length - 1);
    }

    private static void calls(String readme) {
        List<String> described = new ArrayList<>();
        Matcher line = LINE.matcher(readme);
        while (line.find()) {
            int parameters = line.group(2).isEmpty() ? 0 : line.group(2).split(",").length;
            described.add(line.group(1) + "/" + parameters);
        }
        Set<String> face = new TreeSet<>();
        for (Method m : SpunModules.class.getDeclaredMethods()) {
            if (Modifier.isPublic(m.getModifiers())) {
                face.add(m.getName() + "/" + m.getParameterCount());
            }
        }
        CHECK.due("README.md describes each call once", described.size(), face.size());
        CHECK.holds("README.md describes " + face + ", not " + described, face.equals(new TreeSet<>(described)));
    }

    private static void codes(String readme) throws ReflectiveOperationException {
        int found = 0;
        Matcher code = CODE.matcher(readme);
        while (code.find()) {
            found++;
            CHECK.due("README.md: " + code.group(1), SpunModules.class.getField(code.group(1)).getInt(null), Integer.parseInt(code.group(2)));
        }
        CHECK.due("README.md tells four codes", found, 4);
    }

    private static void tests(String readme) throws IOException {
        Set<String> told = new TreeSet<>();
        Matcher test = TEST.matcher(readme.substring(readme.indexOf("## Tests")));
        while (test.find()) {
            told.add(test.group(1));
        }
        told.remove("test");
        Set<String> there = new TreeSet<>();
        try (var files = Files.list(Path.of("src/test/java"))) {
            files.map(f -> f.getFileName().toString()).filter(f -> f.endsWith("Test.java")).forEach(f -> there.add(f.replace(".java", "")));
        }
        CHECK.holds("README.md names the tests " + there + ", not " + told, told.equals(there));
        CHECK.holds("README.md says how the tests are run", readme.contains("    bash .ci/run\n") && Files.isExecutable(Path.of(".ci/run")));
        CHECK.holds("README.md says for how many calls an object is used", readme.contains("at most 512 calls"));
        CHECK.holds("README.md says how an object is made", readme.contains("SpunModules x = new SpunModules();"));
    }

    public static void main(String[] args) throws IOException, ReflectiveOperationException {
        String readme = Files.readString(Path.of("README.md"));
        example(readme);
        calls(readme);
        codes(readme);
        tests(readme);
        CHECK.ends();
    }
}
