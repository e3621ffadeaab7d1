import java.io.IOException;
import java.lang.reflect.Field;
import java.lang.reflect.Method;
import java.lang.reflect.Modifier;
import java.nio.file.Files;
import java.nio.file.Path;
import java.util.Arrays;
import java.util.List;
import java.util.Set;
import java.util.TreeSet;
import java.util.regex.Matcher;
import java.util.regex.Pattern;
import java.util.stream.Collectors;

/** The form that ../shared/LANGUAGE.md asks for, as far as it can be seen from outside. */
final class LanguageTest {
    private static final Path SOURCE = Path.of("src/main/java/FullStopWells.java");
    private static final Path DOCUMENT = Path.of("../shared/DOC.md");

    private LanguageTest() {
    }

    private static String typeName(String text) {
        return text.trim().replaceAll("\\s+", " ");
    }

    private static Set<String> faceOfDocument() throws IOException {
        String doc = Files.readString(DOCUMENT);
        String face = doc.substring(doc.indexOf("public final class FullStopWells {"), doc.indexOf("## Terms"));
        Set<String> set = new TreeSet<>();
        Matcher m = Pattern.compile("public (\\w+) (\\w+)\\(([^)]*)\\)( throws \\w+)?;").matcher(face);
        while (m.find()) {
            String types = Arrays.stream(m.group(3).split(",")).map(LanguageTest::typeName).filter(s -> !s.isEmpty())
                .map(s -> s.substring(0, s.indexOf(' '))).collect(Collectors.joining(","));
            set.add(m.group(1) + " " + m.group(2) + "(" + types + ")" + (m.group(4) == null ? "" : m.group(4)));
        }
        return set;
    }

    private static Set<String> faceOfClass() {
        Set<String> set = new TreeSet<>();
        for (Method m : FullStopWells.class.getDeclaredMethods()) {
            if (!Modifier.isPrivate(m.getModifiers())) {
                String types = Arrays.stream(m.getParameterTypes()).map(Class::getSimpleName).collect(Collectors.joining(","));
                String thrown = Arrays.stream(m.getExceptionTypes()).map(c -> " throws " + c.getSimpleName()).collect(Collectors.joining());
                set.add(m.getReturnType().getSimpleName() + " " + m.getName() + "(" + types + ")" + thrown);
            }
        }
        return set;
    }

    private static void rule1() throws IOException {
        Set<String> due = faceOfDocument();
        Due.is("48 promises, the constructor's aside", due.size(), 47);
        Due.is("the face is " + faceOfClass(), faceOfClass().equals(due), true);
        Due.is("one constructor", FullStopWells.class.getConstructors().length, 1);
        for (Field f : FullStopWells.class.getDeclaredFields()) {
            Due.is("private " + f.getName(), Modifier.isPrivate(f.getModifiers()), !f.getName().equals("NONE"));
        }
        Set<String> names = due.stream().map(s -> s.replaceAll(".* (\\w+)\\(.*", "$1")).collect(Collectors.toSet());
        for (Class<?> inside : FullStopWells.class.getDeclaredClasses()) {
            Due.is(inside + " is static", Modifier.isStatic(inside.getModifiers()), true);
            Due.is(inside + " is not public", Modifier.isPublic(inside.getModifiers()), false);
            for (Method m : inside.getDeclaredMethods()) {
                Due.is(inside + " has no public name " + m.getName(), names.contains(m.getName()), false);
            }
        }
        for (Method m : FullStopWells.class.getDeclaredMethods()) {
            boolean isPrivate = Modifier.isPrivate(m.getModifiers());
            Due.is(m + " has a name of its own", isPrivate && names.contains(m.getName()), false);
            Due.is(m + " has seven parameters at most", m.getParameterCount() <= 7, true);
        }
        Due.is("twelve classes", FullStopWells.class.getDeclaredClasses().length < 12, true);
    }

    private static void whatDoesNotStandInIt(List<String> lines) {
        String[] banned = {"->", "::", "\\bcatch\\b", "\\btry\\b", "\\bfinally\\b", "\\bassert\\b", "\\bsynchronized\\b", "\\bimport (?!java\\.util\\.NoSuchElementException;)",
            "\\bSystem\\b", "\\bArrays\\b", "\\bList\\b", "Exact\\b", "\\bdouble\\b", "\\bfloat\\b", "\\bequals\\b", "\\btoString\\b", "^package\\b", "static \\{",
            "[^\\x00-\\x7f]", "\\t", "\\brandom\\b", "nanoTime", "\\bthrow new (?!NoSuchElementException\\(\\);)"};
        for (String line : lines) {
            for (String one : banned) {
                Due.is("'" + one + "' stands in: " + line, Pattern.compile(one).matcher(line).find(), false);
            }
        }
    }

    /** A method ends where a line of its own indent is a brace alone. */
    private static void methodsAreShort(List<String> lines) {
        int first = -1;
        String end = "";
        for (int i = 0; i < lines.size(); i++) {
            Matcher m = Pattern.compile("^( {4}| {8})(?! )[\\w\\[\\]<> ]+\\([^;]*\\)[\\w ]*\\{$").matcher(lines.get(i));
            if (first < 0 && m.find() && !lines.get(i).contains(" new ")) {
                first = i;
                end = m.group(1) + "}";
            } else if (first >= 0 && lines.get(i).equals(end)) {
                Due.is(lines.get(first) + " has " + (i - first + 1) + " lines", i - first + 1 <= 60, true);
                first = -1;
            }
        }
    }

    public static void main(String[] args) throws IOException {
        rule1();
        List<String> lines = Files.readAllLines(SOURCE);
        whatDoesNotStandInIt(lines);
        methodsAreShort(lines);
        Due.end("the language");
    }
}
