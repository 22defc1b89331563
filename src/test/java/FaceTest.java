import java.lang.reflect.Constructor;
import java.lang.reflect.Field;
import java.lang.reflect.Method;
import java.lang.reflect.Modifier;
import java.util.ArrayList;
import java.util.List;
import java.util.Set;
import java.util.TreeSet;

/** The public face is the document's, and nothing else of the class can be seen (rules 1 and 5 of LANGUAGE.md). */
public final class FaceTest {
    private static final String IAE = "IllegalArgumentException";
    private static final String ISE = "IllegalStateException";
    private static final String IOOBE = "IndexOutOfBoundsException";
    private static final String NSEE = "NoSuchElementException";

    private static final Set<String> FACE = Set.of(
            "int put(int, int) " + IAE + " " + ISE,
            "int add(int, int) " + IAE + " " + ISE,
            "int mark(int, int, boolean) " + IAE + " " + ISE,
            "int insert(int, int, int) " + IAE + " " + IOOBE + " " + ISE,
            "int remove(int, int) " + IAE + " " + IOOBE + " " + ISE,
            "void point(int) " + IAE,
            "int turn(int) " + IAE,
            "void go(int) " + IAE,
            "int undo() " + NSEE,
            "int redo() " + NSEE,
            "int merge(int, int) " + IAE + " " + ISE,
            "int conflicts()",
            "int base(int) " + IAE,
            "long value(int, int, int) " + IAE + " " + IOOBE,
            "int differ(int, int) " + IAE,
            "int parent(int, boolean) " + IAE,
            "int prune()",
            "int figure(int) " + IAE);

    private static int wrong;

    public static void main(String[] args) {
        Class<?> type = RevisionGrove.class;
        check(Modifier.isPublic(type.getModifiers()) && Modifier.isFinal(type.getModifiers()),
                "the class is public and final");
        check(type.getPackageName().isEmpty(), "the class is in no package");
        checkConstructors(type);
        checkMethods(type);
        checkFields(type);
        checkInside(type);
        System.out.println(wrong == 0 ? "the face is as due" : wrong + " things of the face are not as due");
        if (wrong != 0) {
            System.exit(1);
        }
    }

    private static void checkConstructors(Class<?> type) {
        Constructor<?>[] all = type.getDeclaredConstructors();
        check(all.length == 1 && all[0].getParameterCount() == 0 && Modifier.isPublic(all[0].getModifiers()),
                "one public constructor without parameters");
    }

    private static void checkMethods(Class<?> type) {
        Set<String> seen = new TreeSet<>();
        Set<String> publicNames = new TreeSet<>();
        List<String> privateNames = new ArrayList<>();
        for (Method method : type.getDeclaredMethods()) {
            if (Modifier.isPrivate(method.getModifiers())) {
                privateNames.add(method.getName());
            } else {
                seen.add(signature(method));
                publicNames.add(method.getName());
                check(Modifier.isPublic(method.getModifiers()) && !Modifier.isStatic(method.getModifiers()),
                        method.getName() + " is public and of the object");
            }
        }
        check(seen.equals(FACE), "the methods that can be seen are " + new TreeSet<>(FACE) + ", not " + seen);
        for (String name : privateNames) {
            check(!publicNames.contains(name), "no private method is named like the public " + name);
        }
    }

    private static String signature(Method method) {
        StringBuilder text = new StringBuilder();
        text.append(method.getReturnType().getSimpleName()).append(' ').append(method.getName()).append('(');
        String between = "";
        for (Class<?> parameter : method.getParameterTypes()) {
            text.append(between).append(parameter.getSimpleName());
            between = ", ";
        }
        text.append(')');
        for (Class<?> exception : method.getExceptionTypes()) {
            text.append(' ').append(exception.getSimpleName());
        }
        return text.toString();
    }

    private static void checkFields(Class<?> type) {
        for (Field field : type.getDeclaredFields()) {
            check(Modifier.isPrivate(field.getModifiers()), field.getName() + " is private");
            check(!Modifier.isStatic(field.getModifiers()) || Modifier.isFinal(field.getModifiers()),
                    field.getName() + " is no static state");
        }
    }

    private static void checkInside(Class<?> type) {
        for (Class<?> inside : type.getDeclaredClasses()) {
            int modifiers = inside.getModifiers();
            check(Modifier.isStatic(modifiers) && !Modifier.isPublic(modifiers) && !Modifier.isProtected(modifiers),
                    inside.getSimpleName() + " is static and not to be seen from outside");
        }
    }

    private static void check(boolean holds, String what) {
        if (!holds) {
            wrong++;
            System.out.println("not so: " + what);
        }
    }
}
