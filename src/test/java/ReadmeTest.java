import java.lang.reflect.Method;
import java.lang.reflect.Modifier;
import java.nio.file.Files;
import java.nio.file.Path;
import java.util.Set;
import java.util.TreeSet;
import java.util.regex.Matcher;
import java.util.regex.Pattern;

/** README.md says how to use the class: its example answers what its comments say, and shows every call. */
public final class ReadmeTest {
    private static final Pattern EXAMPLE = Pattern.compile("(?s)```java\n(.*?)```");
    private static final Pattern CALL = Pattern.compile("line\\.(\\w+)\\(([^)]*)\\);\\s+// (-?\\d+)(: .*)?");
    private static final Due due = new Due();

    public static void main(String[] args) throws Exception {
        String text = Files.readString(Path.of("README.md"));
        Matcher example = EXAMPLE.matcher(text);
        due.holds("there is an example", example.find());
        Set<String> shown = answers(example.group(1));
        for (Method method : PigLine.class.getDeclaredMethods()) {
            boolean isOfTheFace = Modifier.isPublic(method.getModifiers());
            due.holds(method.getName() + " is shown", !isOfTheFace || shown.contains(method.getName()));
        }
        due.holds("it says how to run the tests", text.contains("    .ci/run\n"));
        testsAreTold(text);
        due.end();
    }

    private static Set<String> answers(String example) {
        Set<String> shown = new TreeSet<>();
        PigLine line = new PigLine();
        for (String row : example.split("\n")) {
            Matcher call = CALL.matcher(row);
            if (call.matches()) {
                shown.add(call.group(1));
                due.is(row, Calls.answer(line, call.group(1), numbers(call.group(2))), Long.parseLong(call.group(3)));
            } else {
                due.holds("a call with its answer: " + row,
                        row.isEmpty() || row.startsWith("// ") || row.equals("PigLine line = new PigLine();"));
            }
        }
        return shown;
    }

    /** As Calls wants them: 1 where the example says true. */
    private static int[] numbers(String told) {
        if (told.isEmpty()) {
            return new int[0];
        }
        String[] parts = told.split(", ");
        int[] numbers = new int[parts.length];
        for (int i = 0; i < parts.length; i++) {
            numbers[i] = parts[i].equals("true") ? 1 : parts[i].equals("false") ? 0 : Integer.parseInt(parts[i]);
        }
        return numbers;
    }

    private static void testsAreTold(String text) throws Exception {
        try (var files = Files.list(Path.of("src/test/java"))) {
            for (Path file : files.toList()) {
                String name = file.getFileName().toString().replace(".java", "");
                due.holds(name + " is told", text.contains("`" + name + "`"));
            }
        }
    }
}
