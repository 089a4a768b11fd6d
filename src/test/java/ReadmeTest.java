import java.io.IOException;
import java.lang.reflect.InvocationTargetException;
import java.lang.reflect.Method;
import java.lang.reflect.Modifier;
import java.nio.file.Files;
import java.nio.file.Path;
import java.util.List;
import java.util.regex.Matcher;
import java.util.regex.Pattern;
import java.util.stream.Collectors;
import java.util.stream.Stream;

/** README.md says how to use the class and how to run its tests, and what it says is so. */
public final class ReadmeTest {
    private static final Path README = Path.of("README.md");
    private static final Path TESTS = Path.of("src/test/java");
    private static final Pattern TYPED = Pattern.compile("\"([^\"]*)\"\\.toCharArray");
    private static final Pattern CALL = Pattern.compile("x\\.(\\w+)\\(([^()]*)\\); +// (-?\\d+):.*");

    public static void main(String[] args) throws IOException, ReflectiveOperationException {
        String text = Files.readString(README);
        example(text);
        namesEachCall(text);
        namesEachTest(text);
        tellsHowToRun(text);
        tellsEachRefusal(text);
        Check.end();
    }

    // Each line of the example that is a call says, behind it, what it answers.
    private static void example(String text) throws ReflectiveOperationException {
        Check.of("the example of README.md");
        HandCensus x = new HandCensus();
        int calls = 0;
        for (String line : between(text, "```java", "```").split("\n")) {
            Matcher typed = TYPED.matcher(line);
            Matcher call = CALL.matcher(line.trim());
            if (typed.find()) {
                Check.type(x, typed.group(1));
            } else if (call.matches()) {
                Check.due(line.trim(), answer(x, call.group(1), call.group(2)), Long.parseLong(call.group(3)));
                calls++;
            } else {
                Check.holds("a call that says its answer: " + line, !line.startsWith("x."));
            }
        }
        Check.holds("some calls are shown", calls >= 6);
    }

    private static long answer(HandCensus x, String name, String told)
            throws IllegalAccessException, InvocationTargetException {
        String[] parts = told.isEmpty() ? new String[0] : told.split(", *");
        Object[] numbers = new Object[parts.length];
        for (int i = 0; i < parts.length; i++) {
            numbers[i] = parts[i].equals("HandCensus.NONE") ? HandCensus.NONE : Integer.parseInt(parts[i]);
        }
        for (Method method : HandCensus.class.getMethods()) {
            if (method.getName().equals(name) && method.getParameterCount() == parts.length) {
                return ((Number) method.invoke(x, numbers)).longValue();
            }
        }
        Check.holds("there is such a call: " + name, false);
        return 0;
    }

    private static void namesEachCall(String text) {
        Check.of("README.md names each call of the face with what it takes");
        for (Method method : HandCensus.class.getDeclaredMethods()) {
            if (Modifier.isPublic(method.getModifiers())) {
                Check.holds(method.getName(), namesCall(text, method.getName(), method.getParameterCount()));
            }
        }
    }

    private static boolean namesCall(String text, String name, int takes) {
        Matcher named = Pattern.compile("`" + name + "\\(([^()`]*)\\)`").matcher(text);
        while (named.find()) {
            int told = named.group(1).isEmpty() ? 0 : named.group(1).split(",").length;
            if (told == takes) {
                return true;
            }
        }
        return false;
    }

    private static void namesEachTest(String text) throws IOException {
        Check.of("README.md names each test, and no other");
        List<String> there;
        try (Stream<Path> files = Files.list(TESTS)) {
            there = files.map(file -> file.getFileName().toString()).filter(name -> name.endsWith("Test.java"))
                .map(name -> name.substring(0, name.length() - 5)).collect(Collectors.toList());
        }
        for (String name : there) {
            Check.holds(name + " is named", text.contains("`" + name + "`"));
        }
        Matcher named = Pattern.compile("`(\\w+Test)`").matcher(text);
        while (named.find()) {
            Check.holds(named.group(1) + " is there", there.contains(named.group(1)));
        }
    }

    private static void tellsHowToRun(String text) {
        Check.of("README.md says how to run the tests");
        Check.holds("the script", text.contains(".ci/run") && Files.isExecutable(Path.of(".ci/run")));
        Check.holds("the shared tests", text.contains("../shared/tests"));
    }

    private static void tellsEachRefusal(String text) {
        Check.of("README.md tells each number by which a call refuses");
        HandCensus x = new HandCensus();
        Check.holds("set() has one of its own", x.set(0, 20) == -5 && text.contains("`set()`") && text.contains("-5"));
        Check.holds("get() has one of its own",
            x.get(0, 0, 0) == Integer.MIN_VALUE && text.contains("`get()`") && text.contains("least int"));
        for (String name : List.of("BAD", "NOT", "FULL", "-10")) {
            Check.holds(name, text.contains(name));
        }
    }

    private static String between(String text, String start, String end) {
        int from = text.indexOf(start);
        int to = from < 0 ? -1 : text.indexOf(end, from + start.length());
        return to < 0 ? "" : text.substring(from + start.length(), to);
    }
}
