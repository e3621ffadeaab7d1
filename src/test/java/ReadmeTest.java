import java.io.IOException;
import java.lang.reflect.Method;
import java.lang.reflect.Modifier;
import java.nio.file.Files;
import java.nio.file.Path;
import java.util.ArrayList;
import java.util.List;
import java.util.regex.Matcher;
import java.util.regex.Pattern;

/** README.md names every call, and the calls that it shows answer as it says. */
final class ReadmeTest {
    private static final Path PAGE = Path.of("README.md");
    private static final Pattern CALL = Pattern.compile("x\\.(\\w+)\\(([^)]*)\\); +// (-?\\d+|true|false)(; the ROW:((?: -?\\d+)+))?(;.*)?");

    private ReadmeTest() {
    }

    /** What stands in the page's java blocks, a line each. */
    private static List<String> shown(String page) {
        List<String> lines = new ArrayList<>();
        Matcher m = Pattern.compile("(?s)```java\n(.*?)```").matcher(page);
        while (m.find()) {
            lines.addAll(List.of(m.group(1).split("\n")));
        }
        return lines;
    }

    private static String answer(FullStopWells x, String name, String numbers) throws ReflectiveOperationException {
        String[] told = numbers.isEmpty() ? new String[0] : numbers.split(", ");
        for (Method m : FullStopWells.class.getMethods()) {
            if (m.getName().equals(name) && m.getParameterCount() == told.length) {
                Object[] args = new Object[told.length];
                for (int i = 0; i < told.length; i++) {
                    args[i] = (int) (long) Long.decode(told[i]);
                }
                return m.invoke(x, args).toString();
            }
        }
        return "no such call";
    }

    private static void answersAsShown(String page) throws ReflectiveOperationException {
        List<String> lines = shown(page);
        Due.is("the first line shown", lines.get(0), "FullStopWells x = new FullStopWells();");
        FullStopWells x = new FullStopWells();
        for (String line : lines.subList(1, lines.size())) {
            Matcher m = CALL.matcher(line);
            boolean isCall = m.matches();
            Due.is("is a call with its answer: " + line, isCall, true);
            if (isCall) {
                Due.is(line, answer(x, m.group(1), m.group(2)), m.group(3));
                Due.is("the ROW behind " + line, m.group(5) == null ? "" : " " + Seen.row(x), m.group(5) == null ? "" : m.group(5));
            }
        }
    }

    private static void namesEveryCall(String page) {
        for (Method m : FullStopWells.class.getDeclaredMethods()) {
            boolean isCall = Modifier.isPublic(m.getModifiers());
            Due.is("`" + m.getName() + "` is named", !isCall || page.contains("`" + m.getName() + "`"), true);
        }
    }

    public static void main(String[] args) throws IOException, ReflectiveOperationException {
        String page = Files.readString(PAGE);
        answersAsShown(page);
        namesEveryCall(page);
        Due.is("how to run the tests", page.contains(".ci/run"), true);
        Due.end("the page that says how to use it");
    }
}
