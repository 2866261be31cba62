import java.nio.charset.StandardCharsets;
import java.nio.file.Files;
import java.nio.file.Path;
import java.util.Arrays;
import java.util.regex.Matcher;
import java.util.regex.Pattern;

/** README.md's HOUSE is told, and each call there answers what stands behind it. */
public final class ReadmeTest extends Asking {
    private static final Pattern ANSWER = Pattern.compile("cabinet\\.(\\w+)\\(([-\\d, ]*)\\); +// (-?\\d+)");
    private static final int CALLS = 30;

    public static void main(String[] args) throws Exception {
        String readme = Files.readString(Path.of("README.md"), StandardCharsets.US_ASCII);
        TurnCabinet cabinet = new TurnCabinet();
        tell(cabinet, between(readme, "```text\n", "```"));
        due("house()", cabinet.house(), 3);
        Matcher answer = ANSWER.matcher(readme);
        int calls = 0;
        for (; answer.find(); calls++) {
            due(answer.group(), call(cabinet, answer.group(1), answer.group(2)), Integer.parseInt(answer.group(3)));
        }
        due("calls in README.md, enough", calls >= CALLS ? 1 : 0, 1);
        end();
    }

    private static String between(String text, String start, String end) {
        int from = text.indexOf(start) + start.length();
        return text.substring(from, text.indexOf(end, from));
    }

    private static int call(TurnCabinet cabinet, String name, String told) throws Exception {
        Object[] numbers = told.isBlank() ? new Object[0]
            : Arrays.stream(told.split(",")).map(n -> Integer.valueOf(n.trim())).toArray();
        Class<?>[] types = new Class<?>[numbers.length];
        Arrays.fill(types, int.class);
        return (Integer) TurnCabinet.class.getMethod(name, types).invoke(cabinet, numbers);
    }
}
