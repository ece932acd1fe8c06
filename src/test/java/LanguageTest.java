import java.io.IOException;
import java.nio.file.Files;
import java.nio.file.Path;
import java.util.List;
import java.util.regex.Matcher;
import java.util.regex.Pattern;

/** What the rules of the language forbid, as far as a look at the program's text can find it. */
public final class LanguageTest {
    private static final List<String> FORBIDDEN = List.of(
        "\\bfinally\\b", "\\bsynchronized\\b", "\\bassert\\b", "\\bcatch\\b", "\\bpackage\\b",
        "->", "::", "Exact\\b", "\\bSystem\\b", "\\bstatic \\{", "\\bextends\\b");

    private static final Calls CALLS = new Calls();

    public static void main(String[] args) throws IOException {
        String text = withoutComments(Files.readString(Path.of("src/main/java/CanalStairs.java")));
        for (String pattern : FORBIDDEN) {
            CALLS.due("use of " + pattern, "" + count(text, pattern), "0");
        }
        CALLS.due("imports but Arrays",
            "" + (count(text, "\\bimport ") - count(text, "import java\\.util\\.Arrays;")), "0");
        // All calls of a run live in one room: only the constructor's rows and exceptions are made.
        int rows = count(text, "private final int\\[\\] \\w+ = new int\\[");
        int thrown = count(text, "throw new \\w+\\(\"[^\"]+\"\\);");
        CALLS.due("objects made elsewhere", "" + (count(text, "\\bnew ") - rows - thrown), "0");
        CALLS.due("static fields that are not final", "" + count(text, "\\bstatic (?!final)\\w+ \\w+( =|;)"), "0");
        CALLS.end();
    }

    private static String withoutComments(String text) {
        return text.replaceAll("(?s)/\\*.*?\\*/", "").replaceAll("//.*", "");
    }

    private static int count(String text, String pattern) {
        Matcher matcher = Pattern.compile(pattern).matcher(text);
        int many = 0;
        while (matcher.find()) {
            many++;
        }
        return many;
    }
}
