import java.lang.reflect.Array;
import java.lang.reflect.Field;
import java.lang.reflect.Modifier;
import java.util.ArrayDeque;
import java.util.Deque;
import java.util.IdentityHashMap;
import java.util.Map;

/** All rows are made by the constructor, few enough for many objects in one room. */
public final class RoomTest {
    public static void main(String[] args) throws IllegalAccessException {
        Due due = new Due();
        HillArms x = new HillArms();
        Map<Object, Object> made = parts(x);
        long fields = fieldsIn(made);
        System.out.println(made.size() + " objects, " + fields + " fields and elements");
        due.is("objects", made.size() < 1000, true);
        due.is("fields and elements", fields < 20_000, true);
        use(x);
        Map<Object, Object> now = parts(x);
        due.is("no call makes a part", made.keySet().containsAll(now.keySet()), true);
        due.end();
    }

    private static void use(HillArms x) {
        Tapes.put(x, "when own=0 and left=blind do show 5, write 3; when a=0 do a is 1, sent;");
        x.program(0);
        Tapes.put(x, "when left=5 do write 5;");
        x.program(2);
        Tapes.put(x, 5, 6);
        x.message();
        x.fog(0, 1, 500);
        x.play(500);
        x.broken(60, 10);
        Tapes.put(x, "be");
        x.entry();
        Tapes.put(x, "to be");
        x.code();
        Tapes.put(x, "to be");
        x.year();
        x.small(12);
        x.note(0, 1, 5);
        x.look(0);
        Tapes.put(x, new int[224]);
        x.hills(14);
    }

    private static Map<Object, Object> parts(Object root) throws IllegalAccessException {
        Map<Object, Object> seen = new IdentityHashMap<>();
        Deque<Object> open = new ArrayDeque<>();
        open.add(root);
        seen.put(root, root);
        while (!open.isEmpty()) {
            Object part = open.remove();
            if (part instanceof Object[] row) {
                for (Object element : row) {
                    meet(element, seen, open);
                }
            } else if (!part.getClass().isArray()) {
                for (Field field : part.getClass().getDeclaredFields()) {
                    if (!Modifier.isStatic(field.getModifiers()) && !field.getType().isPrimitive()) {
                        field.setAccessible(true);
                        meet(field.get(part), seen, open);
                    }
                }
            }
        }
        return seen;
    }

    private static void meet(Object part, Map<Object, Object> seen, Deque<Object> open) {
        if (part != null && seen.put(part, part) == null) {
            open.add(part);
        }
    }

    private static long fieldsIn(Map<Object, Object> parts) {
        long fields = 0;
        for (Object part : parts.keySet()) {
            fields += part.getClass().isArray() ? Array.getLength(part)
                    : part.getClass().getDeclaredFields().length;
        }
        return fields;
    }
}
