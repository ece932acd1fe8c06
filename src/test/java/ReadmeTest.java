import java.io.File;
import java.io.IOException;
import java.lang.reflect.Method;
import java.lang.reflect.Modifier;
import java.nio.file.Files;
import java.nio.file.Path;
import java.util.regex.Matcher;
import java.util.regex.Pattern;

/** What README.md tells of the class is so: its example's answers, its list of calls and of tests. */
public final class ReadmeTest {
    private static final Pattern EXAMPLE = Pattern.compile("(?s)```java\n(.*?)```");
    private static final Pattern ROW =
        Pattern.compile("stairs\\.(\\w+\\([^)]*\\)); +// (-?[0-9]+|throws \\w+)(:.*)?");

    private static final Calls CALLS = new Calls();

    public static void main(String[] args) throws IOException {
        String text = Files.readString(Path.of("README.md"));
        example(text);
        calls(text);
        tests(text);
        CALLS.end();
    }

    private static void example(String text) {
        Matcher example = EXAMPLE.matcher(text);
        StringBuilder rows = new StringBuilder();
        for (String line : example.find() ? example.group(1).split("\n") : new String[] {"no example"}) {
            Matcher row = ROW.matcher(line);
            if (row.matches()) {
                rows.append(row.group(1)).append(" -> ").append(row.group(2).replace(' ', '.')).append('\n');
            } else {
                CALLS.due("a row of the example", line, "CanalStairs stairs = new CanalStairs();");
            }
        }
        CALLS.run("README.md", rows.toString());
    }

    private static void calls(String text) {
        for (Method method : CanalStairs.class.getDeclaredMethods()) {
            if (Modifier.isPublic(method.getModifiers())) {
                Matcher row = Pattern.compile("\\| `" + method.getName() + "\\(([^)]*)\\)` \\|").matcher(text);
                String listed = row.find() ? "" + parameters(row.group(1)) : "no row";
                CALLS.due("parameters in README.md of " + method.getName(), listed, "" + method.getParameterCount());
            }
        }
    }

    private static int parameters(String list) {
        return list.isEmpty() ? 0 : list.split(",").length;
    }

    private static void tests(String text) {
        for (String file : new File("src/test/java").list()) {
            String name = "- `" + file.replace(".java", "") + "`:";
            CALLS.due("README.md has " + name, "" + text.contains(name), "true");
        }
    }
}
