import java.lang.reflect.Field;
import java.lang.reflect.Method;
import java.lang.reflect.Modifier;
import java.util.Arrays;
import java.util.Set;
import java.util.TreeSet;

/** The public face: the constant, the constructor and the methods of the document, and nothing beside them. */
public final class FaceTest {
    private static final String INT = "int ";
    private static final Set<String> FACE = new TreeSet<>(Arrays.asList(
            INT + "addSource [int, int, int]", INT + "setSource [int, int, int]",
            INT + "addSection [int, int, int, int]", INT + "clearSections [int]", INT + "setTimer [int, int, int]",
            INT + "raise [int]", INT + "setLine [int, boolean]", INT + "set [int, int]", INT + "run [int]",
            INT + "source [int, int]", INT + "section [int, int, int]", INT + "stack [int]",
            INT + "processor [int]", INT + "account [int]", INT + "log [int, int]", INT + "entersAfter [int, int]",
            INT + "idleAfter [int]", INT + "latencyIf [int, int]", INT + "blocking [int]", INT + "type [int]",
            INT + "clearCommands []", INT + "runCommands []", INT + "stop []", INT + "undo []", "long digest []"));

    private static final Check CHECK = new Check();

    public static void main(String[] arguments) {
        CHECK.due("NONE", NestedBells.NONE, -1);
        CHECK.due("modifiers", NestedBells.class.getModifiers(), Modifier.PUBLIC | Modifier.FINAL);
        CHECK.due("constructors", NestedBells.class.getDeclaredConstructors().length, 1);
        CHECK.due("public constructors", NestedBells.class.getConstructors().length, 1);
        fields();
        methods();
        CHECK.end();
    }

    private static void fields() {
        for (Field field : NestedBells.class.getDeclaredFields()) {
            boolean isNone = field.getName().equals("NONE");
            if (isNone == Modifier.isPrivate(field.getModifiers())) {
                CHECK.tell("the field " + field.getName() + " is not as private as it must be");
            }
        }
    }

    private static void methods() {
        Set<String> face = new TreeSet<>();
        Set<String> names = new TreeSet<>();
        for (Method method : NestedBells.class.getDeclaredMethods()) {
            if (Modifier.isPublic(method.getModifiers())) {
                face.add(method.getReturnType() + " " + method.getName() + " "
                        + Arrays.toString(method.getParameterTypes()).replace("class ", ""));
                names.add(method.getName());
            } else if (!Modifier.isPrivate(method.getModifiers())) {
                CHECK.tell("the method " + method.getName() + " is neither public nor private");
            }
        }
        for (Method method : NestedBells.class.getDeclaredMethods()) {
            if (Modifier.isPrivate(method.getModifiers()) && names.contains(method.getName())) {
                CHECK.tell("a private method bears the name of the public one " + method.getName());
            }
        }
        if (!face.equals(FACE)) {
            CHECK.tell("the face is " + face + ", due is " + FACE);
        }
    }
}
