import java.lang.reflect.Constructor;
import java.lang.reflect.Field;
import java.lang.reflect.Method;
import java.lang.reflect.Modifier;
import java.util.TreeSet;

/** The public face: just the constants, the constructor and the methods of the document. */
public final class FaceTest {
    private static final String[] CODES = {"", "COMMENT", "CHARACTER", "DIRECTIVE", "CONDITION", "NESTING",
        "REDEFINED", "ROOM", "CALL", "PASTE", "NUMBER", "SYNTAX"};

    public static void main(String[] args) throws ReflectiveOperationException {
        Check.due("package", PhaseReader.class.getPackageName(), "");
        Check.due("modifiers", Modifier.toString(PhaseReader.class.getModifiers()), "public final");
        constants();
        methods();
        constructor();
        Check.end();
    }

    private static void constants() throws ReflectiveOperationException {
        TreeSet<String> got = new TreeSet<>();
        for (Field field : PhaseReader.class.getDeclaredFields()) {
            if (!Modifier.isPrivate(field.getModifiers())) {
                got.add(field.toString().replace("PhaseReader.", "") + " = " + field.get(null));
            }
        }
        TreeSet<String> want = new TreeSet<>();
        for (int code = 1; code < CODES.length; code++) {
            want.add("public static final int " + CODES[code] + " = " + code);
            Check.due("name of " + code, nameOf(code), CODES[code]);
        }
        Check.due("constants", got.toString(), want.toString());
    }

    /** Only constants of the compiler can stand behind case. */
    private static String nameOf(int code) {
        switch (code) {
            case PhaseReader.COMMENT:
                return "COMMENT";
            case PhaseReader.CHARACTER:
                return "CHARACTER";
            case PhaseReader.DIRECTIVE:
                return "DIRECTIVE";
            case PhaseReader.CONDITION:
                return "CONDITION";
            case PhaseReader.NESTING:
                return "NESTING";
            case PhaseReader.REDEFINED:
                return "REDEFINED";
            case PhaseReader.ROOM:
                return "ROOM";
            case PhaseReader.CALL:
                return "CALL";
            case PhaseReader.PASTE:
                return "PASTE";
            case PhaseReader.NUMBER:
                return "NUMBER";
            case PhaseReader.SYNTAX:
                return "SYNTAX";
            default:
                return "";
        }
    }

    private static void methods() {
        TreeSet<String> got = new TreeSet<>();
        for (Method method : PhaseReader.class.getDeclaredMethods()) {
            if (!Modifier.isPrivate(method.getModifiers())) {
                got.add(method.toString().replace("PhaseReader.", ""));
            }
        }
        Check.due("methods", got.toString(), "[public boolean choose(int), "
            + "public boolean write(char), public int length(int), public int macros(), "
            + "public int node(int,int), public int nodes(), public int place(int), "
            + "public int replaced(), public int spelling(int,int), public int tokens(), "
            + "public int translate(int), public int verdict(), public void clear()]");
    }

    private static void constructor() {
        Constructor<?>[] constructors = PhaseReader.class.getDeclaredConstructors();
        Check.due("constructors", constructors.length, 1);
        Check.due("constructor", constructors[0].toString(), "public PhaseReader()");
    }
}
