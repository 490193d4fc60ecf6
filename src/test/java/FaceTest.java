import java.lang.reflect.Constructor;
import java.lang.reflect.Field;
import java.lang.reflect.Method;
import java.lang.reflect.Modifier;
import java.util.Set;
import java.util.TreeSet;

/** Tests that the class has the document's face, and nothing else that can be seen. */
public final class FaceTest {
    private static final Set<String> FACE = Set.of(
            "int setShare(int, int) throws IllegalArgumentException, IllegalStateException",
            "boolean setSwitch(int, boolean) throws IllegalArgumentException",
            "double setPrice(int) throws IllegalArgumentException",
            "boolean tell(int, int) throws IllegalArgumentException",
            "boolean close(int) throws IllegalArgumentException, IllegalStateException",
            "int closed()",
            "double replace(int, int, int) throws IllegalArgumentException"
                    + ", IndexOutOfBoundsException, IllegalStateException",
            "double use(int, int) throws IllegalArgumentException, IndexOutOfBoundsException",
            "double fromSun(int, int) throws IllegalArgumentException, IndexOutOfBoundsException",
            "double fromBattery(int, int) throws IllegalArgumentException, IndexOutOfBoundsException",
            "double bought(int, int) throws IllegalArgumentException, IndexOutOfBoundsException",
            "double sold(int) throws IndexOutOfBoundsException",
            "double battery()",
            "int turn()",
            "int sheds(int) throws IllegalArgumentException",
            "double bill(int) throws IllegalArgumentException");

    private static final Checks checks = new Checks("FaceTest");

    public static void main(String[] args) {
        theClassIsFinal();
        theMethodsAreThoseOfTheFace();
        nothingElseIsSeen();
        checks.end();
    }

    private static void theClassIsFinal() {
        int modifiers = GridCommons.class.getModifiers();
        checks.holds("public", Modifier.isPublic(modifiers));
        checks.holds("final", Modifier.isFinal(modifiers));
        Constructor<?>[] constructors = GridCommons.class.getDeclaredConstructors();
        checks.same("constructors", constructors.length, 1);
        checks.same("its arguments", constructors[0].getParameterCount(), 0);
        checks.holds("public constructor", Modifier.isPublic(constructors[0].getModifiers()));
    }

    private static void theMethodsAreThoseOfTheFace() {
        Set<String> seen = new TreeSet<>();
        for (Method method : GridCommons.class.getDeclaredMethods()) {
            if (!Modifier.isPrivate(method.getModifiers())) {
                checks.holds(method + " is public", Modifier.isPublic(method.getModifiers()));
                seen.add(text(method));
            }
        }
        checks.holds("methods are those of the face: " + seen, seen.equals(FACE));
    }

    private static void nothingElseIsSeen() {
        for (Method method : GridCommons.class.getDeclaredMethods()) {
            boolean isPrivate = Modifier.isPrivate(method.getModifiers());
            checks.holds(method + " has a name of its own", !isPrivate || !isNameOfTheFace(method.getName()));
        }
        for (Field field : GridCommons.class.getDeclaredFields()) {
            int modifiers = field.getModifiers();
            checks.holds(field + " is private", Modifier.isPrivate(modifiers));
            checks.holds(field + " is final if static", !Modifier.isStatic(modifiers) || Modifier.isFinal(modifiers));
        }
        for (Class<?> inside : GridCommons.class.getDeclaredClasses()) {
            int modifiers = inside.getModifiers();
            checks.holds(inside + " is not seen", !Modifier.isPublic(modifiers) && !Modifier.isProtected(modifiers));
            checks.holds(inside + " is static", Modifier.isStatic(modifiers));
        }
    }

    private static boolean isNameOfTheFace(String name) {
        for (String signature : FACE) {
            if (signature.contains(" " + name + "(")) {
                return true;
            }
        }
        return false;
    }

    private static String text(Method method) {
        StringBuilder text = new StringBuilder(method.getReturnType() + " " + method.getName() + "(");
        String comma = "";
        for (Class<?> type : method.getParameterTypes()) {
            text.append(comma).append(type);
            comma = ", ";
        }
        text.append(")");
        comma = " throws ";
        for (Class<?> type : method.getExceptionTypes()) {
            text.append(comma).append(type.getSimpleName());
            comma = ", ";
        }
        return text.toString();
    }
}
