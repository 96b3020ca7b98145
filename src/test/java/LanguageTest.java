import java.io.IOException;
import java.nio.file.Files;
import java.nio.file.Path;
import java.util.regex.Matcher;
import java.util.regex.Pattern;

/** The rules of LANGUAGE.md that a look at the text can tell. */
public final class LanguageTest {
    private static final Check check = new Check();
    private static final String[] NEVER = {
        "\\b(throw|throws|try|catch|finally|synchronized|assert|import|package)\\b", "->", "::", "\\bvar\\b",
        "\\bSystem\\.(?!arraycopy)", "\\b\\w+Exact\\b", "\\bObject\\b", "\\bstatic\\s*\\{", "\\bprotected\\b",
    };

    public static void main(String[] args) throws IOException {
        String text = Files.readString(Path.of("src/main/java/RoadCounts.java"));
        String code = text.replaceAll("(?s)/\\*.*?\\*/", "").replaceAll("//[^\n]*", "");
        for (String never : NEVER) {
            Matcher m = Pattern.compile(never).matcher(code);
            check.due(never + " stands", m.find(), false);
        }
        check.due("signs are ASCII", text.chars().allMatch(c -> c < 128), true);
        check.due("no static field that is not final", count(code, "private static (?!final )\\w+ \\w+\\s*[;=]"), 0);
        check.due("at most twelve classes", count(code, "\\bclass \\w+") <= 12, true);
        check.due("short methods", longestMethod(code) <= 60, true);
        check.end("LanguageTest");
    }

    private static int count(String code, String pattern) {
        return (int) Pattern.compile(pattern).matcher(code).results().count();
    }

    /** Lines from a line that opens a method to the next brace at the same depth. */
    private static int longestMethod(String code) {
        int longest = 0;
        Matcher m = Pattern.compile("(?m)^( +)[^\n=]*\\) \\{\n(?s:.*?)\n\\1\\}").matcher(code);
        while (m.find()) {
            longest = Math.max(longest, (int) m.group().lines().count());
        }
        return longest;
    }
}
