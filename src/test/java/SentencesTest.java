import java.io.IOException;
import java.nio.file.Files;
import java.nio.file.Path;
import java.util.ArrayList;
import java.util.List;
import java.util.regex.Matcher;
import java.util.regex.Pattern;
import java.util.stream.Stream;

/** Every promise of the document, and every part of its terms, has a test that names its words. */
public final class SentencesTest {
    private static final Due DUE = new Due();

    public static void main(String[] args) throws IOException {
        List<String> named = wordsNamedByTests();
        String document = Files.readString(Path.of("../shared/DOC.md"));
        for (int promise = 1; promise <= 29; promise++) {
            Matcher m = Pattern.compile("(?ms)^## Promise " + promise + ":.*?(?=^## )").matcher(document);
            DUE.is("promise " + promise + " stands in the document", m.find(), true);
            DUE.is("promise " + promise + " has a test", isNamed(m.group(), named), true);
        }
        String terms = document.substring(document.indexOf("## Terms"), document.indexOf("A call that throws"));
        for (String line : terms.split("\n")) {
            if (line.length() > 20) {
                DUE.is("a test for: " + line, isNamed(line, named), true);
            }
        }
        DUE.end();
    }

    private static boolean isNamed(String part, List<String> named) {
        String inOneLine = part.replaceAll("\\s+", " ");
        return named.stream().anyMatch(inOneLine::contains);
    }

    private static List<String> wordsNamedByTests() throws IOException {
        List<String> named = new ArrayList<>();
        List<Path> tests;
        try (Stream<Path> files = Files.list(Path.of("src/test/java"))) {
            tests = files.toList();
        }
        for (Path test : tests) {
            Matcher m = Pattern.compile("DUE\\.about\\(\"([^\"]*)\"\\)").matcher(Files.readString(test));
            while (m.find()) {
                named.add(m.group(1));
            }
        }
        return named;
    }
}
