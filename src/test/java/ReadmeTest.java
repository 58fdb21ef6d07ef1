import java.io.IOException;
import java.lang.reflect.InvocationTargetException;
import java.lang.reflect.Method;
import java.nio.file.Files;
import java.nio.file.Path;
import java.util.Set;
import java.util.TreeSet;
import java.util.regex.Matcher;
import java.util.regex.Pattern;

/** README.md's example: each call answers what stands behind it there. */
public final class ReadmeTest {
    private static final Pattern CALL = Pattern.compile("x\\.(\\w+)\\(([^)]*)\\); +// (true|false|-?\\d+)\\b.*");
    private static final Due DUE = new Due();

    public static void main(String[] args) throws IOException, IllegalAccessException, InvocationTargetException {
        String page = Files.readString(Path.of("README.md"));
        Matcher block = Pattern.compile("(?s)```java\nHillArms x = new HillArms\\(\\);\n(.*?)```").matcher(page);
        DUE.is("README.md has an example", block.find(), true);
        HillArms x = new HillArms();
        for (String line : block.group(1).split("\n")) {
            if (!line.isBlank() && !line.startsWith("//")) {
                call(x, line);
            }
        }
        Set<String> untold = new TreeSet<>();
        for (Method method : HillArms.class.getDeclaredMethods()) {
            if (java.lang.reflect.Modifier.isPublic(method.getModifiers())
                    && !page.contains("`" + method.getName() + "`")) {
                untold.add(method.getName());
            }
        }
        DUE.is("calls that README.md does not name: " + untold, untold.size(), 0);
        DUE.end();
    }

    private static void call(HillArms x, String line) throws IllegalAccessException, InvocationTargetException {
        Matcher m = CALL.matcher(line);
        if (!m.matches()) {
            DUE.is("a call with its answer: " + line, false, true);
            return;
        }
        String[] texts = m.group(2).isBlank() ? new String[0] : m.group(2).split(", ");
        Object[] numbers = new Object[texts.length];
        for (int i = 0; i < texts.length; i++) {
            numbers[i] = Integer.decode(texts[i]);
        }
        for (Method method : HillArms.class.getDeclaredMethods()) {
            if (method.getName().equals(m.group(1))) {
                String got = String.valueOf(method.invoke(x, numbers));
                DUE.is(line + " answered " + got + ", as told", got.equals(m.group(3)), true);
                return;
            }
        }
        DUE.is("there is such a call: " + line, false, true);
    }
}
