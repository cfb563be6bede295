import java.io.File;
import java.io.IOException;
import java.lang.reflect.Method;
import java.lang.reflect.Modifier;
import java.nio.file.Files;
import java.nio.file.Path;
import java.util.Arrays;
import java.util.Collections;
import java.util.regex.Matcher;
import java.util.regex.Pattern;

/** README.md holds for the project as it stands: its example, its calls and its tests. */
public final class ReadmeTest {
    private static final Pattern EXAMPLE = Pattern.compile("(?m)^x\\.(\\w+)\\(([0-9, ]*)\\); +// (-?[0-9]+)");

    public static void main(String[] args) throws IOException {
        Check check = new Check();
        String text = Files.readString(Path.of("README.md"));
        theExampleAnswersAsItSays(check, text);
        everyCallIsNamed(check, text);
        everyTestIsNamed(check, text);
        check.finish();
    }

    private static void theExampleAnswersAsItSays(Check check, String text) {
        TabledOrigin x = new TabledOrigin();
        Matcher line = EXAMPLE.matcher(text);
        int lines = 0;
        while (line.find()) {
            Call call = callOf(line.group(1), line.group(2));
            check.due("README.md: " + line.group(), call.on(x), Integer.parseInt(line.group(3)));
            lines++;
        }
        check.due("lines of the example", lines, (int) text.lines().filter(one -> one.startsWith("x.")).count());
        check.due("there is an example", lines > 0, true);
    }

    private static Call callOf(String name, String arguments) {
        int[] values = new int[3];
        String[] parts = arguments.isBlank() ? new String[0] : arguments.split(",");
        for (int i = 0; i < parts.length; i++) {
            values[i] = Integer.parseInt(parts[i].trim());
        }
        return new Call(name, values[0], values[1], values[2]);
    }

    private static void everyCallIsNamed(Check check, String text) {
        for (Method method : TabledOrigin.class.getDeclaredMethods()) {
            if (Modifier.isPublic(method.getModifiers())) {
                String parameters = String.join(", ", Collections.nCopies(method.getParameterCount(), "int \\w+"));
                Pattern row = Pattern.compile("(?m)^\\| `" + method.getName() + "\\(" + parameters + "\\)` \\|");
                check.due("README.md has a row for " + method.getName(), row.matcher(text).find(), true);
            }
        }
    }

    private static void everyTestIsNamed(Check check, String text) {
        String[] files = new File("src/test/java").list((place, name) -> name.endsWith("Test.java"));
        for (String file : files) {
            String name = file.replace(".java", "");
            boolean ofAPromise = name.startsWith("Promise");
            check.due("README.md names " + name, ofAPromise || text.contains("`" + name + "`"), true);
        }
        for (int promise = 1; promise <= 19; promise++) {
            String start = String.format("Promise%02d", promise);
            long found = Arrays.stream(files).filter(file -> file.startsWith(start)).count();
            check.due("tests of " + start, (int) found, 1);
        }
    }
}
