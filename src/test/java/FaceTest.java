import java.lang.reflect.Constructor;
import java.lang.reflect.Field;
import java.lang.reflect.Method;
import java.lang.reflect.Modifier;
import java.util.Arrays;
import java.util.List;
import java.util.Set;
import java.util.TreeSet;

/** The class has the document's face, and beside it nothing that could be seen from outside. */
final class FaceTest {
    private static final List<String> FACE = List.of(
            "int setTable() throws IllegalArgumentException",
            "int low(int) throws IllegalArgumentException",
            "int addBerth(int, int, boolean, int) throws IllegalArgumentException, IllegalStateException",
            "int addBoat(int, int, int) throws IllegalArgumentException, IllegalStateException",
            "int set(int, int) throws IllegalArgumentException",
            "int setRate(int, int) throws IndexOutOfBoundsException, IllegalArgumentException",
            "int berth(int, int) throws IndexOutOfBoundsException, IllegalArgumentException",
            "int boat(int, int) throws IndexOutOfBoundsException, IllegalArgumentException",
            "boolean fits(int, int) throws IndexOutOfBoundsException",
            "int info(int) throws IllegalArgumentException",
            "int place(int, int) throws IndexOutOfBoundsException, IllegalStateException",
            "int leave(int) throws IndexOutOfBoundsException, IllegalStateException",
            "int change(int, int) throws IndexOutOfBoundsException, IllegalArgumentException, IllegalStateException",
            "int await(int) throws IndexOutOfBoundsException, IllegalStateException",
            "int offer(int) throws IndexOutOfBoundsException, IllegalStateException",
            "int waiting(int)",
            "int bestBerth(int) throws IndexOutOfBoundsException",
            "int pass(int) throws IllegalArgumentException, IllegalStateException",
            "int pay(int, int) throws IndexOutOfBoundsException, IllegalArgumentException",
            "int charge(int, int) throws IndexOutOfBoundsException, IllegalArgumentException, IllegalStateException",
            "long owed()",
            "long paid()",
            "int owesAfter(int, int) throws IndexOutOfBoundsException, IllegalArgumentException",
            "int groundsIn(int) throws IndexOutOfBoundsException",
            "int winterBerth(int) throws IndexOutOfBoundsException, IllegalStateException",
            "int wouldGoAshore() throws IllegalStateException",
            "int greatestClearance()",
            "int missingDepth(int, int) throws IndexOutOfBoundsException",
            "int type(int) throws IllegalArgumentException, IllegalStateException",
            "int clearText()",
            "int fault()",
            "int undo() throws IllegalStateException",
            "long checksum()");

    public static void main(String[] args) {
        Class<?> face = MarinaBerths.class;
        Checks.due("public final", face.getModifiers(), Modifier.PUBLIC | Modifier.FINAL);
        methodsAreThoseOfTheDocument(face);
        constructorIsThatOfTheDocument(face);
        fieldsShowOnlyNone(face);
        classesInsideStayInside(face);
        Checks.finish("FaceTest");
    }

    private static void methodsAreThoseOfTheDocument(Class<?> face) {
        Set<String> open = new TreeSet<>();
        Set<String> openNames = new TreeSet<>();
        for (Method method : face.getDeclaredMethods()) {
            if (Modifier.isPublic(method.getModifiers())) {
                open.add(told(method));
                openNames.add(method.getName());
            } else if (!Modifier.isPrivate(method.getModifiers()) && !method.isSynthetic()) {
                Checks.tell("neither public nor private: " + method);
            }
        }
        for (Method method : face.getDeclaredMethods()) {
            if (!Modifier.isPublic(method.getModifiers()) && openNames.contains(method.getName())) {
                Checks.tell("a private method bears the name of a public one: " + method);
            }
        }
        for (String line : FACE) {
            if (!open.remove(line)) {
                Checks.tell("missing: " + line);
            }
        }
        for (String line : open) {
            Checks.tell("not in the document: " + line);
        }
    }

    private static String told(Method method) {
        StringBuilder line = new StringBuilder(method.getReturnType().getSimpleName() + " " + method.getName() + "(");
        line.append(names(method.getParameterTypes())).append(")");
        if (method.getExceptionTypes().length > 0) {
            line.append(" throws ").append(names(method.getExceptionTypes()));
        }
        return line.toString();
    }

    private static String names(Class<?>[] types) {
        return String.join(", ", Arrays.stream(types).map(Class::getSimpleName).toList());
    }

    private static void constructorIsThatOfTheDocument(Class<?> face) {
        Constructor<?>[] all = face.getDeclaredConstructors();
        Checks.due("number of constructors", all.length, 1);
        Checks.due("public constructor", all[0].getModifiers(), Modifier.PUBLIC);
        Checks.due("parameters of the constructor", all[0].getParameterCount(), 0);
    }

    private static void fieldsShowOnlyNone(Class<?> face) {
        Checks.due("NONE", MarinaBerths.NONE, -1);
        for (Field field : face.getDeclaredFields()) {
            boolean isNone = field.getName().equals("NONE");
            int seen = isNone ? Modifier.PUBLIC | Modifier.STATIC | Modifier.FINAL : Modifier.PRIVATE;
            if ((field.getModifiers() & seen) != seen && !field.isSynthetic()) {
                Checks.tell("a field with other modifiers: " + field);
            }
            if (Modifier.isStatic(field.getModifiers()) && !Modifier.isFinal(field.getModifiers())) {
                Checks.tell("a static field that is not final: " + field);
            }
        }
    }

    private static void classesInsideStayInside(Class<?> face) {
        Class<?>[] inside = face.getDeclaredClasses();
        Checks.due("at most twelve classes", inside.length <= 11, true);
        for (Class<?> one : inside) {
            int modifiers = one.getModifiers();
            if (Modifier.isPublic(modifiers) || Modifier.isProtected(modifiers) || !Modifier.isStatic(modifiers)) {
                Checks.tell("a class inside that is not private and static: " + one);
            }
        }
    }
}
