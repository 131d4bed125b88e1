import java.io.IOException;
import java.lang.reflect.InvocationTargetException;
import java.lang.reflect.Method;
import java.nio.file.Files;
import java.nio.file.Path;
import java.util.ArrayList;
import java.util.List;
import java.util.Set;
import java.util.TreeSet;
import java.util.regex.Matcher;
import java.util.regex.Pattern;
import java.util.stream.Stream;

/** README.md says what holds: its example, its table of calls, and its list of tests. */
public final class ReadmeTest {
    private static final Check check = new Check();

    // "hems.sew(0, 1);   // 1: and what it means"
    private static final Pattern EXAMPLE = Pattern.compile("hems\\.(\\w+)\\(([^)]*)\\);\\s*// ([^\\s:]+).*");
    // "| `sew(hem, stitch)` | what it answers |"
    private static final Pattern TABLE_ROW = Pattern.compile("\\| `(\\w+)\\(([^)]*)\\)` \\| .+ \\|");

    public static void main(String[] args) throws IOException {
        List<String> lines = Files.readAllLines(Path.of("README.md"));
        exampleAnswersWhatItSays(lines);
        tableHasEachCall(lines);
        eachTestIsNamed(lines);
        check.finish();
    }

    private static void exampleAnswersWhatItSays(List<String> lines) {
        HemSuffixes hems = new HemSuffixes();
        int calls = 0;
        for (String line : lines) {
            Matcher example = EXAMPLE.matcher(line);
            if (example.matches()) {
                calls++;
                check.due(line, example.group(3), () -> answer(hems, example.group(1), example.group(2)));
            } else {
                check.due("\"" + line + "\" is a call that can't be read", false, () -> line.startsWith("hems."));
            }
        }
        boolean asked = calls > 0;
        check.due("README.md has an example", true, () -> asked);
    }

    private static Object answer(HemSuffixes hems, String name, String arguments) {
        List<String> given = parts(arguments);
        Object[] numbers = new Object[given.size()];
        for (int number = 0; number < numbers.length; number++) {
            numbers[number] = Integer.valueOf(given.get(number));
        }
        try {
            return method(name, numbers.length).invoke(hems, numbers);
        } catch (InvocationTargetException thrown) {
            return thrown.getCause().getClass().getSimpleName();
        } catch (IllegalAccessException thrown) {
            return thrown;
        }
    }

    private static Method method(String name, int arguments) {
        for (Method method : HemSuffixes.class.getDeclaredMethods()) {
            if (method.getName().equals(name) && method.getParameterCount() == arguments) {
                return method;
            }
        }
        throw new IllegalStateException("there is no " + name + " with " + arguments + " arguments");
    }

    private static List<String> parts(String arguments) {
        List<String> parts = new ArrayList<>();
        for (String part : arguments.split(",")) {
            if (!part.isBlank()) {
                parts.add(part.trim());
            }
        }
        return parts;
    }

    private static void tableHasEachCall(List<String> lines) {
        List<String> told = new ArrayList<>();
        for (String line : lines) {
            Matcher row = TABLE_ROW.matcher(line);
            if (row.matches()) {
                told.add(row.group(1) + " with " + parts(row.group(2)).size());
            }
        }
        Set<String> due = new TreeSet<>();
        for (Method method : HemSuffixes.class.getMethods()) {
            if (method.getDeclaringClass() == HemSuffixes.class) {
                due.add(method.getName() + " with " + method.getParameterCount());
            }
        }
        check.due("the calls of the table", due, () -> new TreeSet<>(told));
        check.due("the rows of the table", due.size(), told::size);
    }

    private static void eachTestIsNamed(List<String> lines) throws IOException {
        String text = String.join("\n", lines);
        try (Stream<Path> files = Files.list(Path.of("src/test/java"))) {
            for (Path file : files.sorted().toList()) {
                String name = file.getFileName().toString().replace(".java", "");
                check.due("README.md names " + name, true, () -> text.contains("`" + name + "`"));
            }
        }
    }
}
