import java.lang.reflect.Array;
import java.lang.reflect.Field;
import java.lang.reflect.Modifier;
import java.util.ArrayDeque;
import java.util.Collections;
import java.util.Deque;
import java.util.IdentityHashMap;
import java.util.Set;

/**
 * The room that all calls of one run share: an object keeps little, and keeps the same rows whatever
 * it is asked to do, so that even a run that makes a new object with each of 512 calls has room.
 */
public final class RoomTest {
    private static final int MOST_OBJECTS = 600000 / Reader.MOST_CALLS;
    private static final int MOST_ELEMENTS = 7300000 / Reader.MOST_CALLS;

    public static void main(String[] args) throws ReflectiveOperationException {
        PhaseReader reader = new PhaseReader();
        Set<Object> first = reached(reader);
        int elements = 0;
        for (Object object : first) {
            elements += elementsOf(object);
        }
        System.out.println(first.size() + " objects with " + elements + " fields and elements");
        Check.due("objects of a new reader are few", first.size() <= MOST_OBJECTS, true);
        Check.due("fields and elements of a new reader are few", elements <= MOST_ELEMENTS, true);
        use(reader);
        Set<Object> last = reached(reader);
        Check.due("objects of a used reader", last.size(), first.size());
        Check.due("they are those of the new one", first.containsAll(last), true);
        Check.end();
    }

    private static void use(PhaseReader reader) {
        String[] texts = {"#define f(p,q) p##q p\n#define a f(1,f(2,3))\nint x=a;", "typedef int T;T*f(){{return(T)1;}}",
            "#include <0>\n", ";".repeat(100), "$"};
        for (int turn = 0; turn < texts.length; turn++) {
            reader.choose(turn % 3);
            reader.clear();
            for (char c : texts[turn].toCharArray()) {
                reader.write(c);
            }
            for (int file = 0; file < 3; file++) {
                reader.translate(file);
            }
        }
    }

    private static Set<Object> reached(Object start) throws ReflectiveOperationException {
        Set<Object> seen = Collections.newSetFromMap(new IdentityHashMap<>());
        Deque<Object> open = new ArrayDeque<>();
        open.add(start);
        while (!open.isEmpty()) {
            Object object = open.remove();
            if (seen.add(object)) {
                addParts(object, open);
            }
        }
        return seen;
    }

    private static void addParts(Object object, Deque<Object> open) throws ReflectiveOperationException {
        if (object instanceof Object[] parts) {
            for (Object part : parts) {
                if (part != null) {
                    open.add(part);
                }
            }
        } else if (!object.getClass().isArray()) {
            for (Field field : object.getClass().getDeclaredFields()) {
                boolean refers = !Modifier.isStatic(field.getModifiers()) && !field.getType().isPrimitive();
                field.setAccessible(true);
                if (refers && field.get(object) != null) {
                    open.add(field.get(object));
                }
            }
        }
    }

    private static int elementsOf(Object object) {
        if (object.getClass().isArray()) {
            return Array.getLength(object);
        }
        int fields = 0;
        for (Field field : object.getClass().getDeclaredFields()) {
            fields += Modifier.isStatic(field.getModifiers()) ? 0 : 1;
        }
        return fields;
    }
}
