import java.lang.reflect.Constructor;
import java.lang.reflect.Field;
import java.lang.reflect.Member;
import java.lang.reflect.Method;
import java.lang.reflect.Modifier;
import java.util.TreeSet;

/** The public face: the document's constant, constructor and methods, and no other member to be seen. */
final class FaceTest {
    private static final String[] METHODS = {
        "boolean text(int, int, int, int, int)",
        "int clear(int) IllegalArgumentException",
        "int fault()",
        "int part(int, int) NoSuchElementException IllegalArgumentException",
        "int prepare() IllegalArgumentException",
        "int rounds(int, int) IndexOutOfBoundsException",
        "int row(int, int, int, int, int) IllegalArgumentException IllegalStateException",
        "int run(int, int) IllegalArgumentException IllegalStateException ArithmeticException"
                + " UnsupportedOperationException",
        "int size(int) IndexOutOfBoundsException",
        "int table(int) IllegalArgumentException IllegalStateException",
        "long cell(int, int) IndexOutOfBoundsException",
    };

    private FaceTest() {
    }

    public static void main(String[] args) {
        theClass();
        methods();
        fields();
        classesInside();
        Kit.end();
    }

    private static boolean isSeen(Member member) {
        return !Modifier.isPrivate(member.getModifiers()) && !member.isSynthetic();
    }

    private static void theClass() {
        int modifiers = FixpointEngine.class.getModifiers();
        Kit.due("public and final", Modifier.isPublic(modifiers) && Modifier.isFinal(modifiers), true);
        Constructor<?>[] made = FixpointEngine.class.getDeclaredConstructors();
        Kit.due("one constructor", made.length, 1);
        Kit.due("public", Modifier.isPublic(made[0].getModifiers()), true);
        Kit.due("without arguments", made[0].getParameterCount(), 0);
    }

    private static String told(Method method) {
        StringBuilder told = new StringBuilder(method.getReturnType() + " " + method.getName() + "(");
        for (Class<?> type : method.getParameterTypes()) {
            told.append(told.charAt(told.length() - 1) == '(' ? "" : ", ").append(type);
        }
        told.append(")");
        for (Class<?> thrown : method.getExceptionTypes()) {
            told.append(" ").append(thrown.getSimpleName());
        }
        return told.toString();
    }

    private static void methods() {
        TreeSet<String> seen = new TreeSet<>();
        TreeSet<String> names = new TreeSet<>();
        TreeSet<String> hidden = new TreeSet<>();
        for (Method method : FixpointEngine.class.getDeclaredMethods()) {
            if (isSeen(method)) {
                seen.add((Modifier.isPublic(method.getModifiers()) ? "" : "not public: ") + told(method));
                names.add(method.getName());
            } else {
                hidden.add(method.getName());
            }
        }
        Kit.due("methods", seen, new TreeSet<>(java.util.Arrays.asList(METHODS)));
        hidden.retainAll(names);
        Kit.due("no private method bears the name of a public one", hidden, "[]");
    }

    private static void fields() {
        TreeSet<String> seen = new TreeSet<>();
        for (Field field : FixpointEngine.class.getDeclaredFields()) {
            if (isSeen(field)) {
                seen.add(Modifier.toString(field.getModifiers()) + " " + field.getType() + " " + field.getName());
            }
            boolean changes = Modifier.isStatic(field.getModifiers()) && !Modifier.isFinal(field.getModifiers());
            Kit.due(field.getName() + " is static state", changes, false);
        }
        Kit.due("fields", seen, "[public static final long NULL]");
    }

    private static void classesInside() {
        for (Class<?> inside : FixpointEngine.class.getDeclaredClasses()) {
            int modifiers = inside.getModifiers();
            Kit.due(inside + " is static", Modifier.isStatic(modifiers), true);
            Kit.due(inside + " is seen", Modifier.isPublic(modifiers) || Modifier.isProtected(modifiers), false);
        }
    }
}
