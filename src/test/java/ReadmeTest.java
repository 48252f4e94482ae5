import java.io.IOException;
import java.lang.reflect.Method;
import java.lang.reflect.Modifier;
import java.nio.file.Files;
import java.nio.file.Path;
import java.util.HashMap;
import java.util.Map;
import java.util.regex.Matcher;
import java.util.regex.Pattern;

/** README.md tells how to use the class: each call of its example answers as it says, and no call is left out. */
public final class ReadmeTest {
    private static final Pattern EXAMPLE = Pattern.compile("(?s)```java\n(.*?)```");
    private static final Pattern CALL =
        Pattern.compile("(?:int (\\w+) = )?b\\.(\\w+)\\(([^)]*)\\); +// (-?\\d+)(?::.*)?");
    private static final Pattern ROW = Pattern.compile("(?m)^\\| `(\\w+)\\(([^)]*)\\)` \\| ");

    public static void main(String[] args) throws IOException {
        Due due = new Due();
        String page = Files.readString(Path.of("README.md"));
        example(due, page);
        allCalls(due, page);
        howToTest(due, page);
        due.end();
    }

    private static void example(Due due, String page) {
        Matcher block = EXAMPLE.matcher(page);
        due.holds("there is an example", block.find());
        BallMinder b = null;
        Map<String, Integer> named = new HashMap<>();
        for (String line : block.group(1).split("\n")) {
            if (line.equals("BallMinder b = new BallMinder();")) {
                b = new BallMinder();
            } else if (!line.isEmpty() && !line.startsWith("//")) {
                callOfTheExample(due, b, named, line);
            }
        }
    }

    private static void callOfTheExample(Due due, BallMinder b, Map<String, Integer> named, String line) {
        Matcher call = CALL.matcher(line);
        boolean tells = call.matches();
        due.holds("a call and its answer: " + line, tells);
        if (!tells) {
            return;
        }
        String[] given = split(call.group(3));
        int[] numbers = new int[given.length];
        for (int k = 0; k < given.length; k++) {
            numbers[k] = number(named, given[k]);
        }
        long got = Calls.ask(b, call.group(2), numbers);
        due.is(line, got, Long.parseLong(call.group(4)));
        if (call.group(1) != null) {
            named.put(call.group(1), (int) got);
        }
    }

    private static int number(Map<String, Integer> named, String text) {
        if (named.containsKey(text)) {
            return named.get(text);
        }
        return text.startsWith("'") ? text.charAt(1) : Integer.parseInt(text);
    }

    private static String[] split(String given) {
        return given.isEmpty() ? new String[0] : given.split(", ");
    }

    private static void allCalls(Due due, String page) {
        Map<String, Integer> rows = new HashMap<>();
        Matcher row = ROW.matcher(page);
        while (row.find()) {
            due.holds(row.group(1) + " has one row", rows.put(row.group(1), split(row.group(2)).length) == null);
        }
        int calls = 0;
        for (Method m : BallMinder.class.getDeclaredMethods()) {
            if (Modifier.isPublic(m.getModifiers())) {
                calls++;
                due.is("numbers of " + m.getName(), rows.getOrDefault(m.getName(), -1), m.getParameterCount());
            }
        }
        due.is("rows of README.md", rows.size(), calls);
    }

    private static void howToTest(Due due, String page) throws IOException {
        due.holds("README.md names .ci/run", page.contains(".ci/run"));
        try (var files = Files.list(Path.of("src/test/java"))) {
            files.map(f -> f.getFileName().toString()).filter(f -> f.endsWith("Test.java"))
                .map(f -> f.substring(0, f.length() - ".java".length()))
                .forEach(f -> due.holds("README.md names " + f, page.contains("`" + f + "`")));
        }
    }
}
