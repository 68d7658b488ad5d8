import java.lang.reflect.Constructor;
import java.lang.reflect.Field;
import java.lang.reflect.Method;
import java.lang.reflect.Modifier;
import java.util.Arrays;
import java.util.TreeSet;

/** The public face of the document, and nothing else that is not private (LANGUAGE.md, rule 1). */
public final class FaceTest {
    private static final String INDEX = " IndexOutOfBoundsException";
    private static final String ARGUMENT = " IllegalArgumentException";
    private static final String STATE = " IllegalStateException";
    private static final String[] METHODS = {
        "int set(int, int)" + INDEX + ARGUMENT + STATE, "void curve(int, int, int, int)" + INDEX + ARGUMENT + STATE,
        "void stay(int, int, int, int)" + INDEX + ARGUMENT + STATE, "int check()", "boolean on()" + STATE,
        "boolean off()", "void seen(boolean)", "boolean reset()", "void power(int, int)" + ARGUMENT,
        "int sample(int, int, int)" + ARGUMENT, "void grid(int, int, int)" + ARGUMENT,
        "int run(int)" + ARGUMENT + STATE, "int signal(int)" + INDEX, "int state(int)" + INDEX,
        "int count(int)" + INDEX, "long energy()", "int event(int, int)" + INDEX};

    public static void main(String[] args) throws ReflectiveOperationException {
        Due due = new Due("FaceTest");
        due.same("NONE", GridConverter.NONE, -1);
        due.same("the class is public and final", GridConverter.class.getModifiers(), Modifier.PUBLIC | Modifier.FINAL);
        methods(due);
        fields(due);
        constructors(due);
        due.end();
    }

    private static void methods(Due due) {
        TreeSet<String> want = new TreeSet<>(Arrays.asList(METHODS));
        TreeSet<String> got = new TreeSet<>();
        TreeSet<String> publicNames = new TreeSet<>();
        for (Method m : GridConverter.class.getDeclaredMethods()) {
            if (!Modifier.isPrivate(m.getModifiers()) && !m.isSynthetic()) {
                due.same(m + " is public and no more", m.getModifiers(), Modifier.PUBLIC);
                got.add(faceOf(m));
                publicNames.add(m.getName());
            }
        }
        for (Method m : GridConverter.class.getDeclaredMethods()) {
            if (Modifier.isPrivate(m.getModifiers())) {
                due.same(m.getName() + " is a public name", publicNames.contains(m.getName()), false);
            }
        }
        due.same("the methods", got.toString(), want.toString());
    }

    private static String faceOf(Method m) {
        StringBuilder types = new StringBuilder();
        for (Class<?> type : m.getParameterTypes()) {
            types.append(types.length() == 0 ? "" : ", ").append(type.getName());
        }
        StringBuilder thrown = new StringBuilder();
        for (Class<?> type : m.getExceptionTypes()) {
            thrown.append(' ').append(type.getSimpleName());
        }
        return m.getReturnType().getName() + " " + m.getName() + "(" + types + ")" + thrown;
    }

    private static void fields(Due due) {
        int shown = 0;
        for (Field f : GridConverter.class.getDeclaredFields()) {
            if (!Modifier.isPrivate(f.getModifiers())) {
                shown++;
                due.same(f + " is NONE", f.getName().equals("NONE"), true);
            }
        }
        due.same("fields that are shown", shown, 1);
    }

    private static void constructors(Due due) throws ReflectiveOperationException {
        Constructor<?>[] all = GridConverter.class.getDeclaredConstructors();
        due.same("constructors", all.length, 1);
        due.same("it is public", GridConverter.class.getConstructor().getModifiers(), Modifier.PUBLIC);
    }
}
