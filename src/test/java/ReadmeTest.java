import java.io.IOException;
import java.nio.file.Files;
import java.nio.file.Path;
import java.util.regex.Matcher;
import java.util.regex.Pattern;

/** The calls in README.md answer what is said behind them. */
public final class ReadmeTest {
    private static final Pattern CALL =
            Pattern.compile("x\\.(\\w+)\\(([^)]*)\\); +// (-?\\d+)\\b.*");

    private ReadmeTest() {
    }

    public static void main(String[] args) throws IOException {
        Check check = new Check();
        CommaWill x = new CommaWill();
        for (String line : Files.readAllLines(Path.of("README.md"))) {
            Matcher m = CALL.matcher(line);
            if (m.matches()) {
                check.due(line, Calls.of(x, m.group(1), numbers(m.group(2))),
                        Long.parseLong(m.group(3)));
            } else if (line.startsWith("x.")) {
                check.due("an answer stands behind " + line, 0, 1);
            }
        }
        check.finish();
    }

    private static int[] numbers(String list) {
        if (list.isEmpty()) {
            return new int[0];
        }
        String[] each = list.split(", ");
        int[] all = new int[each.length];
        for (int i = 0; i < all.length; i++) {
            all[i] = Integer.decode(each[i]);
        }
        return all;
    }
}
