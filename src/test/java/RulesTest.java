import java.io.IOException;
import java.nio.charset.StandardCharsets;
import java.nio.file.Files;
import java.nio.file.Path;
import java.util.List;
import java.util.regex.Matcher;
import java.util.regex.Pattern;

/** Those of the rules of ../shared/LANGUAGE.md that can be read off the text of the program. */
public final class RulesTest {
    private static final Path PROGRAM = Path.of("src/main/java/DayMuseum.java");
    private static final String[] FORBIDDEN = {
        "\\bthrow\\b", "\\btry\\b", "\\bcatch\\b", "\\bsynchronized\\b", "\\bassert\\b", "->", "::", "\\bpackage\\b",
        "\\bequals\\b", "\\bhashCode\\b", "\\btoString\\b", "Exact\\b", "\\bthis\\.\\w+\\(", "static \\{", "@\\w+",
        "\\bSystem\\.(?!arraycopy\\b)", "\\bArrays\\.(?!copyOf\\b|copyOfRange\\b|fill\\b)",
        "\\bMath\\.(?!min\\b|max\\b|abs\\b)", "\\b(Integer|Long)\\.(?!bitCount\\b)", "^import (?!java\\.util\\.Arrays;)",
        "\\bprotected\\b", "\\b(double|float|var|Object|Thread|Random|Class)\\b", "\\b(instanceof|record|native|volatile)\\b",
        "for \\(;;\\)|while \\(true\\)", "new \\w+\\(.*\\) \\{", "\\w\\.(clone|wait|notify|getClass|forEach|stream)\\(",
        "^    (?!private|public|\\}|/\\*\\*|$|  )", "[^\\x00-\\x7f]",
    };
    private static final Pattern METHOD = Pattern.compile("^ {4}( {4})?(?!private final|private static final)[a-z][\\w\\[\\] ]* \\w+\\((.*)\\) \\{$");

    public static void main(String[] args) throws IOException {
        List<String> lines = Files.readAllLines(PROGRAM, StandardCharsets.ISO_8859_1);
        words(lines);
        methods(lines);
        Museum.end("RulesTest");
    }

    private static void words(List<String> lines) {
        for (String word : FORBIDDEN) {
            Pattern pattern = Pattern.compile(word);
            int found = 0;
            for (String line : lines) {
                boolean isComment = line.trim().startsWith("/**") || line.trim().startsWith("//");
                found += !isComment && pattern.matcher(line).find() ? 1 : 0;
            }
            Museum.due(word, found, 0);
        }
        int classes = 0;
        for (String line : lines) {
            classes += line.contains(" class ") && line.endsWith("{") ? 1 : 0;
        }
        Museum.due("some twelve classes", classes <= 12, true);
    }

    /** Seven parameters, some sixty lines. */
    private static void methods(List<String> lines) {
        int methods = 0;
        for (int i = 0; i < lines.size(); i++) {
            Matcher head = METHOD.matcher(lines.get(i));
            if (!head.find()) {
                continue;
            }
            methods++;
            String end = lines.get(i).replaceAll("\\S.*", "") + "}";
            int length = 1;
            while (i + length < lines.size() && !lines.get(i + length).equals(end)) {
                length++;
            }
            int parameters = head.group(2).isEmpty() ? 0 : head.group(2).split(",").length;
            Museum.due("short " + lines.get(i).trim(), length < 60, true);
            Museum.due("parameters of " + lines.get(i).trim(), parameters <= 7, true);
        }
        Museum.due("methods were found", methods > 150, true);
    }
}
