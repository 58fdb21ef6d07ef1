import java.io.IOException;
import java.nio.file.Files;
import java.nio.file.Path;
import java.util.regex.Matcher;
import java.util.regex.Pattern;

/** The rules of ../shared/LANGUAGE.md that can be seen in the program's text. */
public final class SourceTest {
    private static final Due DUE = new Due();
    private static final String[] NEVER = {
        "->", "::", "\\bfinally\\b", "\\bsynchronized\\b", "\\bassert\\b", "\\bcatch\\b", "\\btry\\b",
        "\\bpackage\\b", "\\bvar\\b", "\\bprotected\\b", "\\bvolatile\\b", "\\bnative\\b",
        "\\bThread\\b", "\\bRandom\\b", "\\brandom\\b", "\\bnanoTime\\b", "\\bcurrentTimeMillis\\b",
        "\\bException\\b", "\\bThrowable\\b", "\\bError\\b", "\\bArithmeticException\\b",
        "\\bNullPointerException\\b", "\\bArrayIndexOutOfBoundsException\\b",
        "\\bClassCastException\\b", "\\bequals\\b", "\\bhashCode\\b", "\\btoString\\b",
        "\\w+Exact\\b", "\\bwhile \\(true\\)", "\\bfor \\(;;\\)", "\\bstatic \\{", "\\bString\\.format\\b",
        "\\bdouble\\b", "\\bfloat\\b", "\" \\+", "\\+ \"", "\\bSystem\\.(?!arraycopy\\b)",
        "\\bArrays\\.(?!fill\\b|copyOf\\b|copyOfRange\\b)"};

    public static void main(String[] args) throws IOException {
        String whole = Files.readString(Path.of("src/main/java/HillArms.java"));
        String text = withoutComments(whole);
        for (String pattern : NEVER) {
            Matcher m = Pattern.compile(pattern).matcher(text);
            boolean found = m.find();
            DUE.is("'" + pattern + "' is never used" + (found ? " but at " + m.start() : ""), found,
                    false);
        }
        DUE.is("signs 1 to 127", whole.chars().allMatch(c -> c > 0 && c < 128), true);
        imports(text);
        throwsOnly(text);
        staticFields(text);
        classes(text);
        methods(whole);
        DUE.end();
    }

    private static String withoutComments(String text) {
        return text.replaceAll("(?s)/\\*.*?\\*/", "").replaceAll("//[^\\n]*", "");
    }

    private static void imports(String text) {
        Matcher m = Pattern.compile("import ([^;]+);").matcher(text);
        while (m.find()) {
            DUE.is("import " + m.group(1), m.group(1).matches(
                    "java\\.util\\.(Arrays|ArrayList|List|NoSuchElementException|Iterator)"), true);
        }
    }

    private static void throwsOnly(String text) {
        Matcher m = Pattern.compile("\\bthrow\\b([^;]*);").matcher(text);
        while (m.find()) {
            DUE.is("throw" + m.group(1), m.group(1).matches(
                    " new NoSuchElementException\\(\"[^\"]*\"\\)"), true);
        }
    }

    private static void staticFields(String text) {
        Matcher m = Pattern.compile("\\bstatic (?!final )(?!class )([^=({]*)([=({;])").matcher(text);
        while (m.find()) {
            DUE.is("static " + m.group(1) + " is a method", m.group(2).equals("("), true);
        }
    }

    private static void classes(String text) {
        Matcher m = Pattern.compile("\\bclass \\w+").matcher(text);
        int classes = 0;
        while (m.find()) {
            classes++;
        }
        DUE.is("classes: " + classes, classes <= 12, true);
    }

    /** A method of a class begins with 4 or 8 blanks and ends at a brace with as many. */
    private static void methods(String text) {
        Matcher m = Pattern.compile("(?m)^( {4}| {8})(?! )(?![^\\n]*\\bclass\\b)[^\\n;=]*\\) "
                + "(?:throws \\w+ )?\\{\\n(?s:.*?)^\\1\\}\\n").matcher(text);
        int methods = 0;
        while (m.find()) {
            methods++;
            int lines = m.group().split("\n").length;
            DUE.is("lines of " + m.group().trim().split("\n")[0] + ": " + lines, lines <= 60, true);
        }
        DUE.is("methods seen: " + methods, methods > 60, true);
    }
}
