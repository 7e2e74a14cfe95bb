import java.io.IOException;
import java.lang.reflect.InvocationTargetException;
import java.lang.reflect.Method;
import java.lang.reflect.Modifier;
import java.nio.file.Files;
import java.nio.file.Path;
import java.util.HashMap;
import java.util.List;
import java.util.Map;
import java.util.Set;
import java.util.TreeSet;
import java.util.regex.Matcher;
import java.util.regex.Pattern;
import java.util.stream.Collectors;
import java.util.stream.Stream;

/** What README.md says of use and of tests, held against the class and the files as they stand. */
public final class ReadmeTest {
    private static final Path README = Path.of("README.md");
    private static final Path TESTS = Path.of("src/test/java");
    private static final Path COMMAND = Path.of(".ci/run");

    private static final Pattern MADE = Pattern.compile("EquityRelease (\\w+) = new EquityRelease\\(\\);");
    private static final Pattern CALLED = Pattern.compile(
            "(?:((?:int|long|boolean) )?(\\w+) = )?(\\w+)\\.(\\w+)\\(([-\\d, ]*)\\); +// ([-\\w]+(?: \\w+Exception)?)(?:: .+)?");
    private static final Pattern LISTED = Pattern.compile("- `(\\w+Test)`: .+");

    private final Map<String, EquityRelease> desks = new HashMap<>();
    private final Map<String, String> types = new HashMap<>();
    private final Set<String> shown = new TreeSet<>();

    public static void main(String[] args) throws IOException {
        List<String> lines = Files.readAllLines(README);
        new ReadmeTest().theCallsAnswerWhatItSays(lines);
        itNamesEveryTest(lines);
        itNamesTheCommand(lines);
        Checks.finish("ReadmeTest");
    }

    // ---- the calls

    private void theCallsAnswerWhatItSays(List<String> lines) {
        boolean code = false;
        for (String line : lines) {
            if (line.startsWith("```")) {
                code = line.equals("```java");
            } else if (code && !line.isBlank()) {
                follow(line);
            }
        }
        for (Method method : EquityRelease.class.getDeclaredMethods()) {
            if (Modifier.isPublic(method.getModifiers())) {
                Checks.holds("README.md shows " + method.getName(), shown.contains(method.getName()));
            }
        }
    }

    private void follow(String line) {
        Matcher made = MADE.matcher(line);
        Matcher called = CALLED.matcher(line);
        if (made.matches()) {
            Checks.holds("a new name in: " + line, desks.put(made.group(1), new EquityRelease()) == null);
        } else if (called.matches()) {
            call(line, called);
        } else {
            Checks.holds("a line that can be followed: " + line, false);
        }
    }

    private void call(String line, Matcher called) {
        EquityRelease desk = desks.get(called.group(3));
        Method method = methodNamed(called.group(4));
        if (desk == null || method == null) {
            Checks.holds("a desk and a method of the class: " + line, false);
            return;
        }
        wouldCompile(line, called, method);
        String got = answer(desk, method, numbers(called.group(5)));
        Checks.holds(line + " (it answered " + got + ")", got.equals(called.group(6)));
        shown.add(method.getName());
    }

    /** A variable is told once with its type, which is the one that the method answers. */
    private void wouldCompile(String line, Matcher called, Method method) {
        String name = called.group(2);
        if (name == null) {
            return;
        }
        if (called.group(1) != null) {
            Checks.holds("a new name in: " + line, types.put(name, called.group(1).trim()) == null);
        }
        Checks.holds("the method's type in: " + line, method.getReturnType().getName().equals(types.get(name)));
    }

    private static Method methodNamed(String name) {
        for (Method method : EquityRelease.class.getDeclaredMethods()) {
            if (method.getName().equals(name)) {
                return method;
            }
        }
        return null;
    }

    private static Object[] numbers(String told) {
        return told.isBlank() ? new Object[0] : Stream.of(told.split(",")).map(n -> Integer.valueOf(n.trim())).toArray();
    }

    private static String answer(EquityRelease desk, Method method, Object[] numbers) {
        try {
            return String.valueOf(method.invoke(desk, numbers));
        } catch (InvocationTargetException e) {
            return "throws " + e.getCause().getClass().getSimpleName();
        } catch (IllegalAccessException | IllegalArgumentException e) {
            return "no such call";
        }
    }

    // ---- the tests

    private static void itNamesEveryTest(List<String> lines) throws IOException {
        Set<String> listed = lines.stream().map(LISTED::matcher).filter(Matcher::matches)
                .map(m -> m.group(1)).collect(Collectors.toCollection(TreeSet::new));
        try (Stream<Path> files = Files.list(TESTS)) {
            Set<String> there = files.map(f -> f.getFileName().toString()).filter(f -> f.endsWith("Test.java"))
                    .map(f -> f.substring(0, f.length() - ".java".length()))
                    .collect(Collectors.toCollection(TreeSet::new));
            Checks.holds("README.md lists " + listed + ", there are " + there, listed.equals(there));
        }
    }

    private static void itNamesTheCommand(List<String> lines) {
        Checks.holds("README.md names the command", lines.contains("    " + COMMAND));
        Checks.holds("the command can be run", Files.isExecutable(COMMAND));
    }
}
