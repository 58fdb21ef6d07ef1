import java.lang.reflect.Constructor;
import java.lang.reflect.Field;
import java.lang.reflect.Method;
import java.lang.reflect.Modifier;
import java.util.Set;
import java.util.TreeSet;

/** The class has the document's face and nothing else that can be seen. */
public final class FaceTest {
    private static final String[] FACE = {
        "int feed(int, int, int, int, int)", "boolean end(int)", "int next(int)",
        "boolean towers(int)", "int program(int)", "int fault()", "boolean message()",
        "int fog(int, int, int)", "int play(int)", "int shown(int, int)", "int cell(int, int)",
        "int written(int)", "int played(int)", "int broken(int, int)", "int fogAt(int, int)",
        "int entry()", "int code()", "int piece(int)", "int year()", "int small(int)",
        "int smallSet()", "long right(int, int, int) throws java.util.NoSuchElementException",
        "int note(int, int, int)", "int delay(int, int, int)", "int look(int)", "int hills(int)",
        "int hillSet()", "int count(int)"};

    public static void main(String[] args) {
        Due due = new Due();
        Class<?> face = HillArms.class;
        due.is("modifiers", face.getModifiers(), Modifier.PUBLIC | Modifier.FINAL);
        due.is("NONE", HillArms.NONE, -1);
        Set<String> want = new TreeSet<>();
        for (String method : FACE) {
            want.add(method);
        }
        Set<String> got = new TreeSet<>();
        Set<String> names = new TreeSet<>();
        for (Method method : face.getDeclaredMethods()) {
            if (!Modifier.isPrivate(method.getModifiers()) && !method.isSynthetic()) {
                due.is(method + " is public and no more", method.getModifiers(), Modifier.PUBLIC);
                got.add(method.toGenericString().replace("public ", "").replace("HillArms.", "")
                        .replace(",", ", "));
                names.add(method.getName());
            }
        }
        due.is("methods " + got, got.equals(want), true);
        for (Constructor<?> constructor : face.getDeclaredConstructors()) {
            due.is("constructor", constructor.getModifiers(), Modifier.PUBLIC);
            due.is("its parameters", constructor.getParameterCount(), 0);
        }
        for (Field field : face.getDeclaredFields()) {
            boolean isNone = field.getName().equals("NONE");
            due.is("field " + field, Modifier.isPrivate(field.getModifiers()), !isNone);
        }
        privateNames(due, face, names);
        for (Class<?> inside : face.getDeclaredClasses()) {
            int m = inside.getModifiers();
            due.is(inside + " is hidden", Modifier.isPublic(m) || Modifier.isProtected(m), false);
            due.is(inside + " is static", Modifier.isStatic(m), true);
            due.is(inside + " fields", fieldsOf(inside) <= 20, true);
            privateNames(due, inside, names);
        }
        due.end();
    }

    private static int fieldsOf(Class<?> inside) {
        int fields = 0;
        for (Field field : inside.getDeclaredFields()) {
            fields += Modifier.isStatic(field.getModifiers()) ? 0 : 1;
        }
        return fields;
    }

    private static void privateNames(Due due, Class<?> owner, Set<String> names) {
        for (Method method : owner.getDeclaredMethods()) {
            if (!Modifier.isPublic(method.getModifiers())) {
                due.is(method + " has a name of the face", names.contains(method.getName()), false);
            }
            due.is(method + " parameters", method.getParameterCount() <= 7, true);
        }
    }
}
