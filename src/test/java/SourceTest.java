import java.io.IOException;
import java.nio.file.Files;
import java.nio.file.Path;
import java.util.List;
import java.util.regex.Matcher;
import java.util.regex.Pattern;

/** Some of LANGUAGE.md that can be seen in the file's text: what it must not have, what it may take in. */
public final class SourceTest {
    private static final Path MAIN = Path.of("src/main/java/SwimLanes.java");
    private static final String[] NEVER = {
        "\\bthrow\\b", "\\bthrows\\b", "\\btry\\b", "\\bcatch\\b", "\\bsynchronized\\b", "\\bassert\\b", "->", "::",
        "\\bpackage\\b", "\\bvolatile\\b", "\\bnative\\b", "@", "\\bstatic\\s*\\{", "Exact\\b", "\\bvar\\b",
        "\\bprotected\\b", "\\bdouble\\b", "\\bfloat\\b", "\\bwhile\\s*\\(\\s*true", "for\\s*\\(\\s*;\\s*;"};

    public static void main(String[] args) throws IOException {
        Due due = new Due();
        String code = withoutComments(Files.readString(MAIN));
        for (String never : NEVER) {
            due.holds("no " + never, !Pattern.compile(never).matcher(code).find());
        }
        for (String line : code.split("\n")) {
            if (line.startsWith("import")) {
                due.holds(line, List.of("import java.util.Arrays;", "import java.util.ArrayList;",
                    "import java.util.List;").contains(line.trim()));
            }
        }
        due.holds("signs 1 to 127 alone", code.chars().allMatch(c -> c >= 1 && c <= 127));
        methodsAreShort(due, code);
        due.end("SourceTest");
    }

    private static String withoutComments(String code) {
        return code.replaceAll("(?s)/\\*.*?\\*/", "").replaceAll("//[^\n]*", "");
    }

    private static void methodsAreShort(Due due, String code) {
        Matcher m = Pattern.compile("\n( {4}| {8})(?:public |private |static )*\\w+(?:\\[\\])? \\w+\\([^)]*\\) \\{\n")
            .matcher(code);
        int methods = 0;
        while (m.find()) {
            int end = code.indexOf("\n" + m.group(1) + "}", m.end() - 1);
            long lines = code.substring(m.end(), end).lines().count();
            due.holds(m.group().trim() + " has " + lines + " lines", lines <= 60);
            methods++;
        }
        due.holds("methods were found", methods > 35);
    }
}
