import java.lang.reflect.Constructor;
import java.lang.reflect.Field;
import java.lang.reflect.Method;
import java.lang.reflect.Modifier;
import java.util.TreeSet;

/** The public face: what the document names, and no other member that is not private. */
public final class FaceTest {
    private static final String[] METHODS = {"set 2", "pass 1", "mark 3", "clear 3", "marks 3", "isMarked 2", "both 4",
        "crowded 3", "longest 4", "nextMark 2", "ofMonth 2", "inMonth 2", "dayOf 3", "dateOf 2", "count 1", "sizeAs 2",
        "workOf 2", "bestOpen 2", "put 1", "wipe 0", "fault 0", "carryOut 0", "undo 0", "save 1", "restore 1"};
    private static final String[] CONSTANTS = {"NO_SUCH -1", "BAD_VALUE -2", "BAD_TEXT -3", "TOO_MANY -4",
        "NOT_POSSIBLE -5", "NONE -6", "KEEP 0", "OPEN 1", "EMPTY 0", "SAME 1", "RUNS 2", "PLACES 3", "PLAIN 4"};

    public static void main(String[] args) throws Exception {
        Check check = new Check("face");
        Class<?> face = FoldedMonths.class;
        check.holds("the class is public and final",
            Modifier.isPublic(face.getModifiers()) && Modifier.isFinal(face.getModifiers()));
        TreeSet<String> methods = new TreeSet<>();
        TreeSet<String> names = new TreeSet<>();
        for (Method method : face.getDeclaredMethods()) {
            if (!Modifier.isPrivate(method.getModifiers()) && !method.isSynthetic()) {
                methods.add(method.getName() + " " + method.getParameterCount());
                names.add(method.getName());
                check.holds(method.getName() + " is public, of the object, and answers int", method.getReturnType() == int.class
                    && Modifier.isPublic(method.getModifiers()) && !Modifier.isStatic(method.getModifiers()));
                for (Class<?> type : method.getParameterTypes()) {
                    check.holds("parameters of " + method.getName(), type == (method.getName().equals("put") ? long.class : int.class));
                }
            }
        }
        check.holds("the methods: " + methods, methods.equals(new TreeSet<>(java.util.List.of(METHODS))));
        TreeSet<String> constants = new TreeSet<>();
        for (Field field : face.getDeclaredFields()) {
            if (!Modifier.isPrivate(field.getModifiers())) {
                constants.add(field.getName() + " " + field.getInt(null));
                check.holds(field.getName() + " is a public constant of int", field.getType() == int.class
                    && Modifier.isPublic(field.getModifiers()) && Modifier.isFinal(field.getModifiers()));
            }
        }
        check.holds("the constants: " + constants, constants.equals(new TreeSet<>(java.util.List.of(CONSTANTS))));
        for (Method method : face.getDeclaredMethods()) {
            boolean isPrivate = Modifier.isPrivate(method.getModifiers());
            check.holds("private, and not a name of the face: " + method.getName(), !isPrivate || !names.contains(method.getName()));
        }
        Constructor<?>[] constructors = face.getDeclaredConstructors();
        check.due("constructors", constructors.length, 1);
        check.holds("the constructor is public, without parameters",
            constructors[0].getParameterCount() == 0 && Modifier.isPublic(constructors[0].getModifiers()));
        check.holds("at most twelve classes", face.getDeclaredClasses().length < 12);
        check.holds("at most twenty fields", fieldsOf(face) <= 20);
        for (Class<?> inside : face.getDeclaredClasses()) {
            check.holds("at most twenty fields in " + inside, fieldsOf(inside) <= 20);
            check.holds(inside + " is static", Modifier.isStatic(inside.getModifiers()));
            for (Method method : inside.getDeclaredMethods()) {
                check.holds("not a name of the face: " + method.getName(), !names.contains(method.getName()));
            }
        }
        check.end();
    }

    private static int fieldsOf(Class<?> type) {
        int fields = 0;
        for (Field field : type.getDeclaredFields()) {
            fields += Modifier.isStatic(field.getModifiers()) ? 0 : 1;
        }
        return fields;
    }
}
