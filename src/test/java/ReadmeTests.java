import java.io.IOException;
import java.lang.reflect.Method;
import java.lang.reflect.Modifier;
import java.nio.file.DirectoryStream;
import java.nio.file.Files;
import java.nio.file.Path;
import java.util.Arrays;
import java.util.regex.Matcher;
import java.util.regex.Pattern;

/** README.md tells how to use the class as it is: its example is run, and each call and each test is named. */
public final class ReadmeTests {
    private static final Checks CHECKS = new Checks();
    private static final Pattern LINE = Pattern.compile("table\\.(\\w+)\\(([-0-9, ]*)\\); +// ([^:]+): .+");

    public static void main(String[] args) throws IOException {
        Path project = Path.of(args.length > 0 ? args[0] : ".");
        String text = Files.readString(project.resolve("README.md"));
        example(text);
        calls(text);
        tests(text, project.resolve("src/test/java"));
        CHECKS.end();
    }

    private static void example(String text) {
        ClockDominoes table = new ClockDominoes();
        String[] lines = text.substring(text.indexOf("```java") + 7, text.lastIndexOf("```")).trim().split("\n");
        CHECKS.same("README: the object", lines[0], "ClockDominoes table = new ClockDominoes();");
        for (int each = 1; each < lines.length; each++) {
            Matcher line = LINE.matcher(lines[each]);
            CHECKS.same("README: a call and its answer: " + lines[each], line.matches(), true);
            if (line.matches()) {
                String due = line.group(3).replace("throws ", "throws.");
                CHECKS.same("README: " + lines[each], Checks.told(() -> called(table, line)), due);
            }
        }
    }

    private static Object called(ClockDominoes table, Matcher line) {
        String[] numbers = line.group(2).isEmpty() ? new String[0] : line.group(2).split(", ");
        return Calls.real(table, line.group(1), Arrays.stream(numbers).mapToInt(Integer::parseInt).toArray());
    }

    private static void calls(String text) {
        for (Method method : ClockDominoes.class.getDeclaredMethods()) {
            boolean told = text.contains("`" + method.getName() + "`");
            CHECKS.same("README: " + method.getName(), told || !Modifier.isPublic(method.getModifiers()), true);
        }
    }

    private static void tests(String text, Path directory) throws IOException {
        try (DirectoryStream<Path> files = Files.newDirectoryStream(directory, "*Tests.java")) {
            for (Path file : files) {
                String name = file.getFileName().toString().replace(".java", "");
                CHECKS.same("README: " + name, text.contains("`" + name + "`"), true);
            }
        }
    }
}
