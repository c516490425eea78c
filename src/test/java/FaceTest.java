import java.lang.reflect.Constructor;
import java.lang.reflect.Field;
import java.lang.reflect.Method;
import java.lang.reflect.Modifier;
import java.util.TreeSet;

/** The public face: just the constants, the constructor and the methods of the document. */
public final class FaceTest {
    public static void main(String[] args) throws ReflectiveOperationException {
        Check.due("modifiers", Modifier.toString(PhaseReader.class.getModifiers()), "public final");
        TreeSet<String> constants = new TreeSet<>();
        for (Field field : PhaseReader.class.getDeclaredFields()) {
            if (!Modifier.isPrivate(field.getModifiers())) {
                constants.add(field.getName() + "=" + field.get(null));
            }
        }
        Check.due("constants", constants.toString(), "[CALL=8, CHARACTER=2, COMMENT=1, CONDITION=4, "
            + "DIRECTIVE=3, NESTING=5, NUMBER=10, PASTE=9, REDEFINED=6, ROOM=7, SYNTAX=11]");
        TreeSet<String> methods = new TreeSet<>();
        for (Method method : PhaseReader.class.getDeclaredMethods()) {
            if (!Modifier.isPrivate(method.getModifiers())) {
                methods.add(method.toString().replace("PhaseReader.", ""));
            }
        }
        Check.due("methods", methods.toString(), "[public boolean choose(int), "
            + "public boolean write(char), public int length(int), public int macros(), "
            + "public int node(int,int), public int nodes(), public int place(int), "
            + "public int replaced(), public int spelling(int,int), public int tokens(), "
            + "public int translate(int), public int verdict(), public void clear()]");
        Constructor<?>[] constructors = PhaseReader.class.getDeclaredConstructors();
        Check.due("constructors", constructors.length, 1);
        Check.due("constructor", constructors[0].toString(), "public PhaseReader()");
        Check.end();
    }
}
