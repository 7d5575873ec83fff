import java.io.IOException;
import java.lang.reflect.Method;
import java.lang.reflect.Modifier;
import java.nio.file.Files;
import java.nio.file.Path;
import java.util.Arrays;
import java.util.HashSet;
import java.util.List;
import java.util.Set;
import java.util.regex.Matcher;
import java.util.regex.Pattern;
import java.util.stream.Collectors;
import java.util.stream.Stream;

/** README.md tells the truth, and leaves no call and no test out. Run from the project's folder. */
public final class ReadmeTest {
    private static final Path README = Path.of("README.md");
    private static final Path TESTS = Path.of("src", "test", "java");
    private static final String MADE = "LazyHeaps x = new LazyHeaps();";

    /** A call, with the answer that stands behind it. */
    private static final Pattern CALL = Pattern.compile("x\\.(\\w+)\\((.*)\\); +// (-?\\d+)\\b.*");

    private final Checks checks = new Checks();
    private final Set<String> called = new HashSet<>();

    /** The lines between ```java and ```. */
    private static List<String> example(List<String> lines) {
        int from = lines.indexOf("```java");
        int length = from < 0 ? -1 : lines.subList(from, lines.size()).indexOf("```");
        return length < 0 ? List.of() : lines.subList(from + 1, from + length);
    }

    private static int[] numbers(String arguments) {
        return Arrays.stream(arguments.replace("LazyHeaps.NONE", "-1").split(","))
                .map(String::trim).filter(text -> !text.isEmpty())
                .mapToInt(Integer::parseInt).toArray();
    }

    private void play(List<String> example) {
        checks.holds("the example begins with " + MADE, example.indexOf(MADE) == 0);
        Twin twin = new Twin("README.md", checks);
        for (String line : example) {
            Matcher call = CALL.matcher(line);
            if (call.matches()) {
                called.add(call.group(1));
                int answer = twin.ask(call.group(1), numbers(call.group(2)));
                checks.due(line, Integer.parseInt(call.group(3)), answer);
            } else {
                checks.holds("'" + line + "' is a call with its answer",
                        line.isEmpty() || line.startsWith("// ") || line.equals(MADE));
            }
        }
    }

    private void lookForCalls(String text) {
        for (Method method : LazyHeaps.class.getDeclaredMethods()) {
            if (Modifier.isPublic(method.getModifiers())) {
                String name = method.getName();
                checks.holds("the example calls " + name, called.contains(name));
                checks.holds("the table has " + name, text.contains("`" + name + "("));
            }
        }
    }

    private void lookForTests(String text) throws IOException {
        try (Stream<Path> files = Files.list(TESTS)) {
            for (Path file : files.collect(Collectors.toList())) {
                String name = file.getFileName().toString().replace(".java", "");
                checks.holds("README.md tells of " + name, text.contains("`" + name + "`"));
            }
        }
    }

    public static void main(String[] args) throws IOException {
        ReadmeTest test = new ReadmeTest();
        String text = Files.readString(README);
        test.play(example(text.lines().collect(Collectors.toList())));
        test.lookForCalls(text);
        test.lookForTests(text);
        test.checks.finish("ReadmeTest");
    }
}
