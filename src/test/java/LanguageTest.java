import java.io.IOException;
import java.nio.file.Files;
import java.nio.file.Path;
import java.util.List;
import java.util.regex.Matcher;
import java.util.regex.Pattern;

/** The rules of LANGUAGE.md that can be seen from the words of the source alone. */
final class LanguageTest {
    static String source;

    /** What the rules leave out, or what this program has no use for; as regular expressions. */
    private static final List<String> RULED_OUT = List.of(
            "\\bimport\\b", "\\bpackage\\b", "->", "::", "\\bMath\\b", "\\bfinally\\b", "\\btry\\b",
            "\\bcatch\\b", "\\bsynchronized\\b", "\\bassert\\b", "\\bObject\\b", "\\bequals\\b",
            "\\bhashCode\\b", "\\btoString\\b", "\\bSystem\\b", "\\bThread\\b", "\\bvar\\b",
            "\\bstatic\\s*\\{", "\"\\s*\\+", "\\+\\s*\"", "@");

    private static final Pattern METHOD = Pattern.compile(
            "^( +)(private|public) [^=;]*\\([^;=]*$");

    private LanguageTest() {
    }

    static void nothingRuledOutIsUsed(Check c) throws IOException {
        String code = withoutComments(Files.readString(Path.of(source)));
        for (String one : RULED_OUT) {
            Matcher found = Pattern.compile(one).matcher(code);
            c.that("the source has " + one, !found.find());
        }
    }

    static void signsArePlain(Check c) throws IOException {
        for (char sign : Files.readString(Path.of(source)).toCharArray()) {
            c.that("sign " + (int) sign, sign == '\n' || (sign >= 32 && sign < 127));
        }
    }

    static void methodsAreShort(Check c) throws IOException {
        List<String> lines = Files.readAllLines(Path.of(source));
        int methods = 0;
        for (int i = 0; i < lines.size(); i++) {
            Matcher head = METHOD.matcher(lines.get(i));
            if (head.find()) {
                methods++;
                int end = i;
                while (end < lines.size() && !lines.get(end).equals(head.group(1) + "}")) {
                    end++;
                }
                c.that(lines.get(i).trim() + " has " + (end - i + 1) + " lines", end - i < 60);
            }
        }
        c.that("methods were seen: " + methods, methods > 28);
    }

    private static String withoutComments(String text) {
        return text.replaceAll("(?s)/\\*.*?\\*/", " ").replaceAll("//[^\n]*", " ");
    }
}
