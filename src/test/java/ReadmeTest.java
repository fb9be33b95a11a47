import java.io.IOException;
import java.lang.reflect.Method;
import java.nio.charset.StandardCharsets;
import java.nio.file.Files;
import java.nio.file.Path;
import java.util.regex.Matcher;
import java.util.regex.Pattern;

/** The example of README.md: each call of it is made, and must be answered as it says. */
public final class ReadmeTest {
    private static final Pattern CALL = Pattern.compile("^x\\.(\\w+)\\((.*)\\); +// ([^:]+): ?(\"([^\"]*)\")?.*");

    public static void main(String[] args) throws IOException, ReflectiveOperationException {
        DayMuseum x = new DayMuseum();
        int calls = 0;
        for (String line : Files.readAllLines(Path.of("README.md"), StandardCharsets.UTF_8)) {
            Matcher call = CALL.matcher(line);
            if (call.matches()) {
                String[] words = call.group(2).isEmpty() ? new String[0] : call.group(2).split(", ");
                Museum.due(line, String.valueOf(answer(x, call.group(1), words)), call.group(3));
                if (call.group(5) != null) {
                    Museum.due(line, text(words, call.group(5).length()), call.group(5));
                }
                calls++;
            }
        }
        Museum.due("calls in README.md", calls, 20);
        Museum.end("ReadmeTest");
    }

    private static Object answer(DayMuseum x, String name, String[] words) throws ReflectiveOperationException {
        for (Method method : DayMuseum.class.getDeclaredMethods()) {
            if (method.getName().equals(name)) {
                Object[] arguments = new Object[words.length];
                for (int i = 0; i < words.length; i++) {
                    arguments[i] = Integer.decode(words[i]);
                }
                return method.invoke(x, arguments);
            }
        }
        return "no such call";
    }

    /** What a feed puts onto the tape, as it can be read. */
    private static String text(String[] words, int length) {
        StringBuilder all = new StringBuilder();
        for (int i = 0; i < length; i++) {
            all.append((char) (Integer.decode(words[i / 4]) >> 24 - i % 4 * 8 & 255));
        }
        return all.toString();
    }
}
