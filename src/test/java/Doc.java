import java.io.IOException;
import java.nio.file.Files;
import java.nio.file.Path;

/** The document itself, so that a test can name the sentence that it stands for. */
final class Doc {
    private static final String TEXT = read();

    private Doc() {
    }

    static boolean says(String words) {
        return TEXT.contains(inOneLine(words));
    }

    private static String read() {
        try {
            return inOneLine(Files.readString(Path.of("../shared/DOC.md")));
        } catch (IOException e) {
            throw new IllegalStateException("no ../shared/DOC.md", e);
        }
    }

    private static String inOneLine(String text) {
        return text.replaceAll("\\s+", " ").trim();
    }
}
