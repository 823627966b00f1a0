import java.io.IOException;
import java.nio.file.Files;
import java.nio.file.Path;

/** Tests by the document's own sentences: each is quoted as it stands there, and has its answers. */
final class Sentences {
    private static final Path DOCUMENT = Path.of("..", "shared", "DOC.md");

    private final Check check = new Check();
    private final String document;
    private String sentence = "";
    private int answers = 0;

    Sentences() {
        document = read();
    }

    private static String read() {
        try {
            return Files.readString(DOCUMENT).replaceAll("\\s+", " ");
        } catch (IOException e) {
            System.out.println("the document can't be read: " + e);
            return "";
        }
    }

    /** The answers that follow are due by this sentence. */
    void says(String quote) {
        close();
        sentence = quote;
        check.due("the document says: " + quote, document.contains(quote) ? 1 : 0, 1);
    }

    void due(String call, long got, long want) {
        answers++;
        check.due("[" + sentence + "] " + call, got, want);
    }

    private void close() {
        if (!sentence.isEmpty()) {
            check.due("[" + sentence + "] has answers", answers > 0 ? 1 : 0, 1);
        }
        answers = 0;
    }

    void finish() {
        close();
        check.finish();
    }
}
