import java.io.IOException;
import java.lang.reflect.Constructor;
import java.lang.reflect.Field;
import java.lang.reflect.Method;
import java.lang.reflect.Modifier;
import java.nio.charset.StandardCharsets;
import java.nio.file.Files;
import java.nio.file.Path;
import java.util.ArrayList;
import java.util.List;
import java.util.Set;
import java.util.TreeSet;
import java.util.regex.Matcher;
import java.util.regex.Pattern;
import java.util.stream.Collectors;
import java.util.stream.Stream;

/** The rules of LANGUAGE.md, as far as they can be seen without a compiler of one's own. */
public final class LanguageTest {
    private static final List<String> FACE = List.of(
        "int feed(int, int, int, int, int)", "int inn(int)", "int fault()", "int where()", "int far(int, int)",
        "int room(int, int)", "int door(int, int)", "int dream(int, int, int)", "boolean nightfall(int)",
        "boolean dreams(int, int)", "int minutes(int)", "int morning()", "int sleeper(int, int)", "int thing(int, int)",
        "int doorway(int, int)", "int heard(int, int)", "int creaks(int)", "int called(int, int, int)", "int mark()",
        "boolean back(int)", "int noteHeard(int, int, int, boolean)", "int noteThing(int, int, int)",
        "int noteDoor(int, int, int)", "boolean strike()", "int fits(int)", "int fit(int, int, int)", "int sure(int)",
        "int verdict()", "int parts(int)", "int best()", "int told(int, int)", "int alike(int, int)", "int never()",
        "int safe(int)", "int safely(int)", "int walks(int)", "int led(int)", "int size(int)", "int trouble()");

    private static final Check check = new Check();

    public static void main(String[] args) throws IOException {
        face();
        classes();
        Path source = Path.of("src/main/java/NightInn.java");
        String text = Files.readString(source, StandardCharsets.US_ASCII);
        words(bare(text));
        lengths(text.split("\n"));
        check.end();
    }

    private static void none(String what, Iterable<?> found) {
        for (Object one : found) {
            check.due(what + ": " + one, 1, 0);
        }
    }

    private static String signature(Method m) {
        return m.getReturnType().getSimpleName() + " " + m.getName() + Stream.of(m.getParameterTypes())
            .map(Class::getSimpleName).collect(Collectors.joining(", ", "(", ")"));
    }

    private static void face() {
        Class<NightInn> c = NightInn.class;
        check.due("public and final", c.getModifiers(), Modifier.PUBLIC | Modifier.FINAL);
        Set<String> open = new TreeSet<>();
        for (Method m : c.getDeclaredMethods()) {
            if (!Modifier.isPrivate(m.getModifiers()) && !m.isSynthetic()) {
                open.add(signature(m));
                check.due("public, and no more: " + m, m.getModifiers(), Modifier.PUBLIC);
            }
        }
        Set<String> missing = new TreeSet<>(FACE);
        missing.removeAll(open);
        none("missing", missing);
        open.removeAll(FACE);
        none("too much", open);
        check.due("constructors", c.getDeclaredConstructors().length, 1);
        for (Constructor<?> made : c.getDeclaredConstructors()) {
            check.due("a public constructor", made.getModifiers(), Modifier.PUBLIC);
            check.due("its parameters", made.getParameterCount(), 0);
        }
        for (Field f : c.getDeclaredFields()) {
            check.due("private but for NONE: " + f, Modifier.isPrivate(f.getModifiers()), !f.getName().equals("NONE"));
        }
    }

    private static void classes() {
        Set<String> names = FACE.stream().map(s -> s.substring(s.indexOf(' ') + 1, s.indexOf('('))).collect(Collectors.toSet());
        List<Class<?>> all = new ArrayList<>(List.of(NightInn.class.getDeclaredClasses()));
        check.due("at most twelve classes", all.size() + 1 <= 12, true);
        for (Class<?> c : all) {
            check.due("static: " + c, Modifier.isStatic(c.getModifiers()), true);
            check.due("not open: " + c, c.getModifiers() & (Modifier.PUBLIC | Modifier.PROTECTED), 0);
        }
        all.add(NightInn.class);
        for (Class<?> c : all) {
            int fields = 0;
            for (Field f : c.getDeclaredFields()) {
                if (Modifier.isStatic(f.getModifiers())) {
                    check.due("static and final: " + f, Modifier.isFinal(f.getModifiers()), true);
                } else {
                    fields++;
                }
            }
            check.due("fields of " + c, fields <= 20, true);
            for (Method m : c.getDeclaredMethods()) {
                check.due("parameters of " + m, m.getParameterCount() <= 7, true);
                if (!Modifier.isPublic(m.getModifiers())) {
                    check.due("a name of the face: " + m, names.contains(m.getName()), false);
                }
            }
        }
    }

    /** The text without comments and without what stands in quotes. */
    private static String bare(String text) {
        return text.replaceAll("(?s)/\\*.*?\\*/", " ").replaceAll("//[^\n]*", " ").replaceAll("\"[^\"\n]*\"", "\"\"");
    }

    private static void words(String bare) {
        String[] ruledOut = {"->", "::", "\\bfinally\\b", "\\bsynchronized\\b", "\\bassert\\b", "\\bcatch\\b", "Exact\\(",
            "\\bvar\\b", "\\bSystem\\.(?!arraycopy\\()", "\\bMath\\.(?!(min|max)\\()", "\\bThread\\b", "\\bRandom\\b",
            "\\bString\\.", "\\.equals\\(", "\\.hashCode\\(", "\\.toString\\(", "\\bArrays\\.(?!fill\\()",
            "\\bstatic\\s*\\{", "\\bimport\\b(?! java\\.util\\.(Arrays|NoSuchElementException);)", "^package\\b",
            "\\bnew\\b(?=[^;]*\\{\\s*$)", "\\w \\+= \"", "\" \\+|\\+ \"", "\\bjava\\.(?!util\\.(Arrays|NoSuchElementException);)"};
        for (String pattern : ruledOut) {
            Matcher m = Pattern.compile(pattern, Pattern.MULTILINE).matcher(bare);
            List<String> found = new ArrayList<>();
            while (m.find()) {
                found.add(bare.substring(m.start(), Math.min(bare.length(), m.start() + 40)));
            }
            none("ruled out", found);
        }
        Matcher thrown = Pattern.compile("\\bthrow\\b[^;]*;").matcher(bare);
        List<String> others = new ArrayList<>();
        while (thrown.find()) {
            if (!thrown.group().equals("throw new NoSuchElementException();")) {
                others.add(thrown.group());
            }
        }
        none("thrown", others);
    }

    private static void lengths(String[] lines) {
        Pattern head = Pattern.compile("^( {4}| {8})(?!(if|for|while|switch|return)\\b)\\S.*\\).*\\{$");
        for (int i = 0; i < lines.length; i++) {
            check.due("length of line " + (i + 1), lines[i].length() <= 120, true);
            Matcher m = head.matcher(lines[i]);
            if (m.matches()) {
                int end = i;
                while (end < lines.length && !lines[end].equals(m.group(1) + "}")) {
                    end++;
                }
                check.due("length of " + lines[i].trim(), end - i + 1 <= 60, true);
            }
        }
    }
}
