import java.lang.reflect.Constructor;
import java.lang.reflect.Field;
import java.lang.reflect.Method;
import java.lang.reflect.Modifier;
import java.util.ArrayList;
import java.util.Arrays;
import java.util.List;

/** The public face of the document, and what reflection shows of rules 1, 2, 5 and 11 of LANGUAGE.md. */
public final class FaceTest {
    private static final int MOST_FIELDS = 20;

    private static final String INDEX = " IndexOutOfBoundsException";
    private static final String ARGUMENT = " IllegalArgumentException";
    private static final String STATE = " IllegalStateException";
    private static final String UNSUPPORTED = " UnsupportedOperationException";

    static final String[] FACE = {
        "int spawn 0" + STATE,
        "int exit 1" + INDEX,
        "void nil 2" + INDEX,
        "void integer 3" + INDEX + ARGUMENT,
        "void name 3" + INDEX + ARGUMENT,
        "void move 3" + INDEX,
        "void pair 4" + INDEX + STATE,
        "void tuple 3" + INDEX + ARGUMENT + STATE,
        "void blob 3" + INDEX + ARGUMENT + STATE + UNSUPPORTED,
        "void part 4" + INDEX + ARGUMENT,
        "boolean send 3" + INDEX + STATE,
        "int broadcast 2" + INDEX,
        "int receive 2" + INDEX + STATE,
        "int collect 1" + INDEX,
        "int trim 1" + INDEX,
        "int count 1" + ARGUMENT,
        "int of 2" + INDEX + ARGUMENT,
        "int kind 2" + INDEX,
        "int value 2" + INDEX,
        "int address 2" + INDEX,
        "int words 2" + INDEX,
        "int handles 2" + INDEX,
        "boolean equal 4" + INDEX + UNSUPPORTED
    };

    public static void main(String[] args) {
        Script script = new Script();
        List<String> seen = publicMethods();
        for (String method : FACE) {
            script.isTrue("there is no " + method, seen.remove(method));
        }
        script.isTrue("not in the face: " + seen, seen.isEmpty());
        checkClass(script);
        script.end();
    }

    private static List<String> publicMethods() {
        List<String> seen = new ArrayList<>();
        for (Method method : CopyHeaps.class.getDeclaredMethods()) {
            if (!Modifier.isPrivate(method.getModifiers()) && !method.isSynthetic()) {
                seen.add(describe(method));
            }
        }
        return seen;
    }

    private static String describe(Method method) {
        StringBuilder text = new StringBuilder();
        text.append(method.getReturnType()).append(' ').append(method.getName());
        text.append(' ').append(method.getParameterCount());
        for (Class<?> thrown : method.getExceptionTypes()) {
            text.append(' ').append(thrown.getSimpleName());
        }
        return text.toString();
    }

    private static void checkClass(Script script) {
        int modifiers = CopyHeaps.class.getModifiers();
        script.isTrue("not public and final", Modifier.isPublic(modifiers) && Modifier.isFinal(modifiers));
        Constructor<?>[] constructors = CopyHeaps.class.getDeclaredConstructors();
        script.isTrue("not one constructor", constructors.length == 1);
        Class<?>[] parameters = constructors[0].getParameterTypes();
        script.isTrue("not CopyHeaps(int)", Arrays.equals(parameters, new Class<?>[] {int.class}));
        for (Field field : CopyHeaps.class.getDeclaredFields()) {
            script.isTrue("not private: " + field.getName(), Modifier.isPrivate(field.getModifiers()));
        }
        checkFields(script, CopyHeaps.class);
        checkMethods(script, CopyHeaps.class);
        for (Class<?> inside : CopyHeaps.class.getDeclaredClasses()) {
            checkInside(script, inside);
        }
    }

    private static void checkInside(Script script, Class<?> inside) {
        int modifiers = inside.getModifiers();
        boolean hidden = !Modifier.isPublic(modifiers) && !Modifier.isProtected(modifiers);
        script.isTrue("not static: " + inside.getName(), Modifier.isStatic(modifiers));
        script.isTrue("neither private nor package-visible: " + inside.getName(), hidden);
        checkFields(script, inside);
        checkMethods(script, inside);
    }

    private static void checkFields(Script script, Class<?> owner) {
        int fields = 0;
        for (Field field : owner.getDeclaredFields()) {
            script.isTrue("static and not final: " + field.getName(), isFinalIfStatic(field.getModifiers()));
            fields += Modifier.isStatic(field.getModifiers()) ? 0 : 1;
        }
        script.isTrue(owner.getName() + " has " + fields + " fields", fields <= MOST_FIELDS);
    }

    private static void checkMethods(Script script, Class<?> owner) {
        for (Method method : owner.getDeclaredMethods()) {
            boolean isPublic = Modifier.isPublic(method.getModifiers());
            script.isTrue("with a public name: " + method, isPublic || !isInFace(method.getName()));
            script.isTrue("not of ints: " + method, !isPublic || takesIntsAlone(method));
        }
    }

    private static boolean takesIntsAlone(Method method) {
        for (Class<?> type : method.getParameterTypes()) {
            if (type != int.class) {
                return false;
            }
        }
        return true;
    }

    private static boolean isFinalIfStatic(int modifiers) {
        return !Modifier.isStatic(modifiers) || Modifier.isFinal(modifiers);
    }

    private static boolean isInFace(String name) {
        for (String method : FACE) {
            if (method.split(" ")[1].equals(name)) {
                return true;
            }
        }
        return false;
    }
}
