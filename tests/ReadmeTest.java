import java.nio.charset.StandardCharsets;
import java.nio.file.Files;
import java.nio.file.Paths;
import java.util.regex.Matcher;
import java.util.regex.Pattern;

/** README.md shows how the class is used: its calls are made in their order, and must answer what stands behind them. */
public final class ReadmeTest {
    private static final Pattern CALL = Pattern.compile("x\\.(\\w+)\\(([^)]*)\\); // (true|false|-?\\d+)\\b.*");
    private static final Pattern STATUS = Pattern.compile("\\| ([0-9]) \\| ([^:|]*).*\\|");
    private static final Asked T = new Asked();

    public static void main(String[] args) throws Exception {
        KitchenSheets x = new KitchenSheets();
        boolean inCode = false;
        int calls = 0;
        int statuses = 0;
        for (String line : Files.readAllLines(Paths.get("README.md"), StandardCharsets.UTF_8)) {
            inCode = line.startsWith("```") ? line.equals("```java") : inCode;
            if (inCode && line.startsWith("x.")) {
                callOf(x, line);
                calls++;
            }
            statuses += statusOf(line);
        }
        T.about("README.md");
        T.due("calls stand there", calls >= 35, true);
        T.due("STATUSES stand there", statuses, 9);
        T.end("ReadmeTest");
    }

    private static void callOf(KitchenSheets x, String line) {
        T.about("README.md: " + line);
        Matcher m = CALL.matcher(line);
        if (!m.matches()) {
            T.due("it is a call with its answer", false, true);
            return;
        }
        String[] words = m.group(2).isEmpty() ? new String[0] : m.group(2).split(", ");
        long[] numbers = new long[words.length];
        for (int i = 0; i < words.length; i++) {
            numbers[i] = number(words[i]);
        }
        T.due(m.group(1), Calls.call(x, m.group(1), numbers), number(m.group(3)));
    }

    private static long number(String word) {
        return word.equals("true") ? 1 : word.equals("false") ? 0 : Long.decode(word);
    }

    // Behind 0 and 9 the page says more than the document, so these are asked for by the words of the document.
    private static int statusOf(String line) {
        Matcher m = STATUS.matcher(line);
        if (!m.matches()) {
            return 0;
        }
        String why = m.group(1).equals("0") ? "else" : m.group(1).equals("9") ? "a FAULT" : m.group(2).trim();
        T.sentence("README.md, STATUS " + m.group(1), m.group(1) + " " + why + ".");
        return 1;
    }
}
