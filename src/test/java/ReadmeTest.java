import java.io.ByteArrayOutputStream;
import java.io.IOException;
import java.io.PrintStream;
import java.nio.file.Files;
import java.nio.file.Path;
import java.util.Map;
import java.util.Set;
import java.util.TreeMap;
import java.util.TreeSet;
import java.util.regex.Matcher;
import java.util.regex.Pattern;
import java.util.stream.Collectors;
import java.util.stream.Stream;

/** What README.md says is so: its example, its table of troubles, its table of tests. */
public final class ReadmeTest {
    private static final Path README = Path.of("README.md");
    private static final Path DOC = Path.of("../shared/DOC.md");
    private static final Path TESTS = Path.of("src/test/java");

    private static final Pattern PROMISE = Pattern.compile("## Promise \\d+: (\\w+)\n\n(.*)");
    private static final Pattern REFUSAL = Pattern.compile("(?:NONE|false): (\\d[^.]*)\\.");
    private static final Pattern TROUBLE_ROW = Pattern.compile("(?m)^\\| (\\d) \\| [^|]* \\| ([^|]*) \\|$");
    private static final Pattern TEST_ROW = Pattern.compile("(?m)^\\| `(\\w+Test)` \\|");
    private static final Pattern CALL = Pattern.compile("`(\\w+)`");

    private static final Check check = new Check();

    public static void main(String[] args) throws IOException {
        String readme = Files.readString(README);
        example(readme);
        troubles(readme, Files.readString(DOC));
        tests(readme);
        check.end();
    }

    private static void example(String readme) throws IOException {
        check.due("the example", block(readme, "java"), Files.readString(TESTS.resolve("ReadmeExample.java")));
        check.due("what the example prints", block(readme, "text"), printed());
    }

    /** The first block of a sort. */
    private static String block(String readme, String sort) {
        Matcher m = Pattern.compile("(?s)\n```" + sort + "\n(.*?)```\n").matcher(readme);
        return m.find() ? m.group(1) : "missing";
    }

    private static String printed() {
        PrintStream before = System.out;
        ByteArrayOutputStream bytes = new ByteArrayOutputStream();
        System.setOut(new PrintStream(bytes, true));
        ReadmeExample.main(new String[0]);
        System.setOut(before);
        return bytes.toString().replace("\r\n", "\n");
    }

    /** The calls that README.md names beside each trouble are those of which the document tells its number. */
    private static void troubles(String readme, String doc) {
        Map<String, Set<String>> due = new TreeMap<>();
        Matcher promise = PROMISE.matcher(doc);
        while (promise.find()) {
            for (String number : numbersOf(promise.group(2))) {
                due.computeIfAbsent(number, n -> new TreeSet<>()).add(promise.group(1));
            }
        }
        Map<String, Set<String>> told = new TreeMap<>();
        Matcher row = TROUBLE_ROW.matcher(readme);
        while (row.find()) {
            Set<String> calls = CALL.matcher(row.group(2)).results().map(m -> m.group(1)).collect(Collectors.toSet());
            if (!calls.isEmpty()) {
                told.put(row.group(1), new TreeSet<>(calls));
            }
        }
        check.due("the calls of each trouble", told.toString(), due.toString());
    }

    private static Set<String> numbersOf(String promise) {
        Set<String> numbers = new TreeSet<>();
        Matcher refusal = REFUSAL.matcher(promise);
        if (refusal.find()) {
            for (String one : refusal.group(1).replaceAll("\\([^)]*\\)", "").split(";")) {
                numbers.add(one.trim());
            }
        }
        return numbers;
    }

    private static void tests(String readme) throws IOException {
        Set<String> told = TEST_ROW.matcher(readme).results().map(m -> m.group(1)).collect(Collectors.toCollection(TreeSet::new));
        try (Stream<Path> files = Files.list(TESTS)) {
            Set<String> found = files.map(f -> f.getFileName().toString()).filter(name -> name.endsWith("Test.java"))
                .map(name -> name.replace(".java", "")).collect(Collectors.toCollection(TreeSet::new));
            check.due("the tests that are named", told.toString(), found.toString());
        }
    }
}
