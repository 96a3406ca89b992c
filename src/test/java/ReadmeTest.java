import java.io.ByteArrayOutputStream;
import java.io.IOException;
import java.io.PrintStream;
import java.lang.reflect.InvocationTargetException;
import java.lang.reflect.Method;
import java.lang.reflect.Modifier;
import java.nio.file.Files;
import java.nio.file.Path;
import java.util.List;
import java.util.Map;
import java.util.NoSuchElementException;
import java.util.Set;
import java.util.TreeMap;
import java.util.TreeSet;
import java.util.function.Supplier;
import java.util.regex.Matcher;
import java.util.regex.Pattern;
import java.util.stream.Collectors;
import java.util.stream.Stream;

/** What README.md says is so of the class: its example, its table of troubles, its table of tests. */
public final class ReadmeTest {
    private static final Path README = Path.of("README.md");
    private static final Path TESTS = Path.of("src/test/java");

    private static final Pattern TROUBLE_ROW = Pattern.compile("(?m)^\\| (\\d) \\| [^|]* \\| ([^|]*)\\|$");
    private static final Pattern QUIET = Pattern.compile("Neither changes `trouble\\(\\)`, nor do ([^:.]*)\\.");
    private static final Pattern TEST_ROW = Pattern.compile("(?m)^\\| `(\\w+Test)` \\|");
    private static final Pattern CALL = Pattern.compile("`(\\w+)`");

    private static final String INN = "inn minutes 3;room a creak 1;room b creak 2;door a,b;thing k in a;"
        + "dream x 0 go b then 0;dream y 0 wait then 0;sleeper p bed a dreams x;listens a";
    private static final int[] NUMBERS = {-1, 0, 1, 99};

    private static final Check check = new Check();

    public static void main(String[] args) throws IOException, ReflectiveOperationException {
        String readme = Files.readString(README);
        example(readme);
        troubles(readme);
        tests(readme);
        check.end();
    }

    private static void example(String readme) throws IOException {
        check.due("the example", block(readme, "java"), Files.readString(TESTS.resolve("ReadmeExample.java")));
        check.due("what the example prints", block(readme, "text"), printed());
    }

    /** The first block of a sort. */
    private static String block(String readme, String sort) {
        Matcher m = Pattern.compile("(?s)\n```" + sort + "\n(.*?)```\n").matcher(readme);
        return m.find() ? m.group(1) : "missing";
    }

    private static String printed() {
        PrintStream before = System.out;
        ByteArrayOutputStream bytes = new ByteArrayOutputStream();
        System.setOut(new PrintStream(bytes, true));
        ReadmeExample.main(new String[0]);
        System.setOut(before);
        return bytes.toString().replace(System.lineSeparator(), "\n");
    }

    /** Each call is asked in many ways, to see which troubles it makes, and whether it leaves an old one as it is. */
    private static void troubles(String readme) throws ReflectiveOperationException {
        Map<Integer, Set<String>> made = new TreeMap<>();
        Set<String> quiet = new TreeSet<>();
        for (Method call : NightInn.class.getDeclaredMethods()) {
            if (Modifier.isPublic(call.getModifiers())) {
                Set<Integer> behindOne = behind(call, x -> x.far(-1, -1));
                Set<Integer> behindTwo = behind(call, x -> x.inn(-1));
                if (behindOne.equals(Set.of(1)) && behindTwo.equals(Set.of(2))) {
                    quiet.add(call.getName());
                    continue;
                }
                check.due("troubles of " + call.getName(), behindOne.toString(), behindTwo.toString());
                for (int trouble : behindOne) {
                    made.computeIfAbsent(trouble, t -> new TreeSet<>()).add(call.getName());
                }
            }
        }
        // Not being refused is no row of the table.
        made.remove(0);
        check.due("the calls of each trouble", rows(readme).toString(), made.toString());
        check.due("the calls that leave trouble() as it is", quiet(readme).toString(), quiet.toString());
    }

    private interface Ahead {
        int of(NightInn x);
    }

    private static Set<Integer> behind(Method call, Ahead ahead) throws ReflectiveOperationException {
        List<Supplier<NightInn>> states = List.of(NightInn::new, () -> check.told(INN), ReadmeTest::used);
        Set<Integer> found = new TreeSet<>();
        int ways = (int) Math.pow(NUMBERS.length, call.getParameterCount());
        for (Supplier<NightInn> state : states) {
            for (int way = 0; way < ways; way++) {
                NightInn x = state.get();
                ahead.of(x);
                ask(x, call, way);
                found.add(x.trouble());
            }
        }
        return found;
    }

    /** A night that is over, all marks and notes that there is room for, no cast that fits. */
    private static NightInn used() {
        NightInn x = check.told(INN);
        x.morning();
        for (int i = 0; i < 3; i++) {
            x.mark();
        }
        for (int i = 0; i < 20; i++) {
            x.noteHeard(i % 2, 0, 1, i % 2 == 0);
        }
        return x;
    }

    private static void ask(NightInn x, Method call, int way) throws ReflectiveOperationException {
        Object[] with = new Object[call.getParameterCount()];
        int left = way;
        for (int i = 0; i < with.length; i++) {
            int number = NUMBERS[left % NUMBERS.length];
            with[i] = call.getParameterTypes()[i] == boolean.class ? (Object) (number > 0) : (Object) number;
            left /= NUMBERS.length;
        }
        try {
            call.invoke(x, with);
        } catch (InvocationTargetException thrown) {
            check.due(call.getName() + " throws " + thrown.getCause(),
                call.getName().equals("led") && thrown.getCause() instanceof NoSuchElementException, true);
        }
    }

    private static Map<Integer, Set<String>> rows(String readme) {
        Map<Integer, Set<String>> told = new TreeMap<>();
        Matcher row = TROUBLE_ROW.matcher(readme);
        while (row.find()) {
            Set<String> calls = calls(row.group(2));
            if (!calls.isEmpty()) {
                told.put(Integer.parseInt(row.group(1)), calls);
            }
        }
        return told;
    }

    /** Those that the sentence names, and the two ahead of it. */
    private static Set<String> quiet(String readme) {
        Set<String> told = new TreeSet<>(Set.of("feed", "size"));
        Matcher sentence = QUIET.matcher(readme);
        if (sentence.find()) {
            told.addAll(calls(sentence.group(1)));
        }
        return told;
    }

    private static Set<String> calls(String text) {
        return CALL.matcher(text).results().map(m -> m.group(1)).collect(Collectors.toCollection(TreeSet::new));
    }

    private static void tests(String readme) throws IOException {
        Set<String> told = TEST_ROW.matcher(readme).results().map(m -> m.group(1)).collect(Collectors.toCollection(TreeSet::new));
        try (Stream<Path> files = Files.list(TESTS)) {
            Set<String> found = files.map(f -> f.getFileName().toString()).filter(name -> name.endsWith("Test.java"))
                .map(name -> name.replace(".java", "")).collect(Collectors.toCollection(TreeSet::new));
            check.due("the tests that are named", told.toString(), found.toString());
        }
    }
}
