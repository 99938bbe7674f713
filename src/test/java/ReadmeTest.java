import java.io.IOException;
import java.lang.reflect.Method;
import java.lang.reflect.Modifier;
import java.nio.file.Files;
import java.nio.file.Path;
import java.util.regex.Matcher;
import java.util.regex.Pattern;

/** README.md: it names every call and the tests, and its example is gone through, each call answering what is said. */
public final class ReadmeTest {
    private static final String OPENING = "```java\n";
    private static final String CLOSING = "```\n";
    private static final Pattern TEXT = Pattern.compile("\"([^\"]*)\"\\.toCharArray\\(\\)");
    private static final Pattern CALL = Pattern.compile("^watch\\.(\\w+)\\(([-\\d, ]*)\\); *// (-?\\d+): ");

    private ReadmeTest() { }

    public static void main(String[] args) throws IOException {
        String page = Files.readString(Path.of("README.md"));
        Trials.holds("README.md says how to use the class (all calls)", () -> namesAllCalls(page));
        Trials.holds("README.md says how to use the class (an example)", () -> goThrough(example(page)));
        Trials.holds("and how to run its tests", () -> namesAllTests(page));
        Trials.end();
    }

    private static void namesAllCalls(String page) {
        for (Method method : RunWatch.class.getDeclaredMethods()) {
            if (Modifier.isPublic(method.getModifiers())) {
                Trials.due("told of: " + method.getName(), page.contains("| `" + method.getName() + "("), true);
            }
        }
    }

    private static void namesAllTests(String page) {
        Trials.due("told of: .ci/run", page.contains("\n    .ci/run\n"), true);
        String[] files = Path.of("src/test/java").toFile().list();
        for (String file : files) {
            if (file.endsWith("Test.java")) {
                String name = file.substring(0, file.length() - ".java".length());
                Trials.due("told of: " + name, page.contains("`" + name + "`"), true);
            }
        }
    }

    private static String example(String page) {
        int from = page.indexOf(OPENING) + OPENING.length();
        return page.substring(from, page.indexOf(CLOSING, from));
    }

    private static void goThrough(String example) {
        RunWatch watch = new RunWatch();
        int calls = 0;
        for (String line : example.split("\n")) {
            Matcher text = TEXT.matcher(line);
            Matcher call = CALL.matcher(line);
            if (text.find()) {
                Trials.typeIn(watch, text.group(1));
            } else if (call.find()) {
                calls++;
                Trials.due(line, ask(watch, call.group(1), call.group(2)), Integer.parseInt(call.group(3)));
            } else {
                Trials.due("no answer said: " + line, line.startsWith("watch."), false);
            }
        }
        Trials.due("calls in the example", calls > 0, true);
    }

    private static int ask(RunWatch watch, String name, String written) {
        String[] parts = written.isBlank() ? new String[0] : written.split(",");
        Class<?>[] kinds = new Class<?>[parts.length];
        Object[] numbers = new Object[parts.length];
        for (int i = 0; i < parts.length; i++) {
            kinds[i] = int.class;
            numbers[i] = Integer.parseInt(parts[i].trim());
        }
        try {
            return (int) RunWatch.class.getMethod(name, kinds).invoke(watch, numbers);
        } catch (ReflectiveOperationException wrong) {
            throw new IllegalStateException(name, wrong);
        }
    }
}
