import java.lang.reflect.Constructor;
import java.lang.reflect.Field;
import java.lang.reflect.Member;
import java.lang.reflect.Method;
import java.lang.reflect.Modifier;
import java.util.Arrays;
import java.util.Set;
import java.util.TreeSet;

/** The class has the document's face and no other, as LANGUAGE.md asks in rules 1, 2 and 5. */
public final class FaceTest {
    private static final String[] FACE = {
        "int NONE",
        "HumpYard()",
        "int cut(int, int, double, int) IllegalArgumentException UnsupportedOperationException",
        "double push(double) IllegalArgumentException",
        "double wish(int, double) IndexOutOfBoundsException IllegalArgumentException",
        "boolean stick(int, boolean) IndexOutOfBoundsException",
        "double fill(int, double) IndexOutOfBoundsException IllegalArgumentException",
        "int tick(int) IllegalArgumentException",
        "double place(int) IndexOutOfBoundsException",
        "double speed(int) IndexOutOfBoundsException",
        "int told(int, int) IndexOutOfBoundsException IllegalArgumentException",
        "int point(int, int) IndexOutOfBoundsException IllegalArgumentException",
        "int siding(int, int) IndexOutOfBoundsException",
        "int event(int, int) IndexOutOfBoundsException IllegalArgumentException",
        "int about(int) IllegalArgumentException",
        "double fastest()",
    };

    private static String names(Class<?>[] classes, String between) {
        return String.join(between, Arrays.stream(classes).map(Class::getSimpleName).toList());
    }

    private static String told(Method m) {
        String text = m.getReturnType().getSimpleName() + " " + m.getName() + "("
                + names(m.getParameterTypes(), ", ") + ") " + names(m.getExceptionTypes(), " ");
        return text.trim();
    }

    private static boolean isOpen(Member member) {
        return !Modifier.isPrivate(member.getModifiers()) && !member.isSynthetic();
    }

    public static void main(String[] args) {
        Set<String> open = new TreeSet<>();
        Set<String> openNames = new TreeSet<>();
        for (Field field : HumpYard.class.getDeclaredFields()) {
            if (isOpen(field)) {
                open.add(field.getType().getSimpleName() + " " + field.getName());
            }
            boolean fixed = !Modifier.isStatic(field.getModifiers()) || Modifier.isFinal(field.getModifiers());
            Checks.due(field.getName() + " is final, if static", fixed, true);
        }
        for (Constructor<?> made : HumpYard.class.getDeclaredConstructors()) {
            if (isOpen(made)) {
                open.add("HumpYard(" + names(made.getParameterTypes(), ", ") + ")");
            }
        }
        for (Method method : HumpYard.class.getDeclaredMethods()) {
            if (isOpen(method)) {
                open.add(told(method));
                openNames.add(method.getName());
                Checks.due(method.getName() + " is public", Modifier.isPublic(method.getModifiers()), true);
            }
        }
        Checks.due("the face", open, new TreeSet<>(Arrays.asList(FACE)));
        for (Method method : HumpYard.class.getDeclaredMethods()) {
            boolean hides = !isOpen(method) && openNames.contains(method.getName());
            Checks.due("private " + method.getName() + " bears a public name", hides, false);
        }
        for (Class<?> inside : HumpYard.class.getDeclaredClasses()) {
            Checks.due(inside.getName() + " is static", Modifier.isStatic(inside.getModifiers()), true);
            Checks.due(inside.getName() + " is public", Modifier.isPublic(inside.getModifiers()), false);
        }
        Checks.due("the class is public and final", HumpYard.class.getModifiers(), Modifier.PUBLIC | Modifier.FINAL);
        Checks.end();
    }
}
