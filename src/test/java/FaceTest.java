import java.lang.reflect.Field;
import java.lang.reflect.Method;
import java.lang.reflect.Modifier;
import java.util.Arrays;
import java.util.Set;
import java.util.TreeSet;

/** The public face: the constant, the constructor and the methods of the document, and nothing beside them. */
public final class FaceTest {
    private static final String INDEX = " IndexOutOfBoundsException";
    private static final String ARGUMENT = " IllegalArgumentException";
    private static final String STATE = " IllegalStateException";

    /** Type, name and parameters of each method, and the exceptions that its declaration names, in their order. */
    private static final Set<String> FACE = new TreeSet<>(Arrays.asList(
            "int addSource [int, int, int]" + ARGUMENT + STATE,
            "int setSource [int, int, int]" + INDEX + ARGUMENT + STATE,
            "int addSection [int, int, int, int]" + INDEX + ARGUMENT + STATE,
            "int clearSections [int]" + INDEX + STATE,
            "int setTimer [int, int, int]" + INDEX + ARGUMENT + STATE,
            "int raise [int]" + INDEX + STATE,
            "int setLine [int, boolean]" + INDEX + STATE,
            "int set [int, int]" + ARGUMENT,
            "int run [int]" + ARGUMENT,
            "int source [int, int]" + INDEX + ARGUMENT,
            "int section [int, int, int]" + INDEX + ARGUMENT,
            "int stack [int]" + ARGUMENT,
            "int processor [int]" + ARGUMENT,
            "int account [int]" + ARGUMENT,
            "int log [int, int]" + ARGUMENT,
            "int entersAfter [int, int]" + INDEX + ARGUMENT,
            "int idleAfter [int]" + ARGUMENT,
            "int latencyIf [int, int]" + INDEX + ARGUMENT,
            "int blocking [int]" + INDEX,
            "int type [int]" + ARGUMENT + STATE,
            "int clearCommands []",
            "int runCommands []",
            "int stop []",
            "int undo []" + STATE,
            "long digest []"));

    private static final Check CHECK = new Check();

    public static void main(String[] arguments) {
        CHECK.due("NONE", NestedBells.NONE, -1);
        CHECK.due("modifiers", NestedBells.class.getModifiers(), Modifier.PUBLIC | Modifier.FINAL);
        CHECK.due("constructors", NestedBells.class.getDeclaredConstructors().length, 1);
        CHECK.due("public constructors", NestedBells.class.getConstructors().length, 1);
        fields();
        methods();
        CHECK.end();
    }

    private static void fields() {
        for (Field field : NestedBells.class.getDeclaredFields()) {
            boolean isNone = field.getName().equals("NONE");
            if (isNone == Modifier.isPrivate(field.getModifiers())) {
                CHECK.tell("the field " + field.getName() + " is not as private as it must be");
            }
        }
    }

    private static void methods() {
        Set<String> face = new TreeSet<>();
        Set<String> names = new TreeSet<>();
        for (Method method : NestedBells.class.getDeclaredMethods()) {
            if (Modifier.isPublic(method.getModifiers())) {
                face.add(declarationOf(method));
                names.add(method.getName());
            } else if (!Modifier.isPrivate(method.getModifiers())) {
                CHECK.tell("the method " + method.getName() + " is neither public nor private");
            }
        }
        for (Method method : NestedBells.class.getDeclaredMethods()) {
            if (Modifier.isPrivate(method.getModifiers()) && names.contains(method.getName())) {
                CHECK.tell("a private method bears the name of the public one " + method.getName());
            }
        }
        if (!face.equals(FACE)) {
            CHECK.tell("the face is " + face + ", due is " + FACE);
        }
    }

    private static String declarationOf(Method method) {
        StringBuilder text = new StringBuilder(method.getReturnType() + " " + method.getName() + " "
                + Arrays.toString(method.getParameterTypes()));
        for (Class<?> thrown : method.getExceptionTypes()) {
            text.append(' ').append(thrown.getSimpleName());
        }
        return text.toString();
    }
}
