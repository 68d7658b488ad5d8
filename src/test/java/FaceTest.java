import java.lang.reflect.Constructor;
import java.lang.reflect.Field;
import java.lang.reflect.Method;
import java.lang.reflect.Modifier;
import java.util.Arrays;
import java.util.TreeSet;

/** The public face of the document, and nothing else that is not private (LANGUAGE.md, rule 1). */
public final class FaceTest {
    private static final String[] METHODS = {
        "int set(int, int)", "void curve(int, int, int, int)", "void stay(int, int, int, int)", "int check()",
        "boolean on()", "boolean off()", "void seen(boolean)", "boolean reset()", "void power(int, int)",
        "int sample(int, int, int)", "void grid(int, int, int)", "int run(int)", "int signal(int)", "int state(int)",
        "int count(int)", "long energy()", "int event(int, int)"};

    public static void main(String[] args) throws ReflectiveOperationException {
        Due due = new Due("FaceTest");
        due.same("NONE", GridConverter.NONE, -1);
        due.same("the class is public and final", GridConverter.class.getModifiers(), Modifier.PUBLIC | Modifier.FINAL);
        methods(due);
        fields(due);
        constructors(due);
        due.end();
    }

    private static void methods(Due due) {
        TreeSet<String> want = new TreeSet<>(Arrays.asList(METHODS));
        TreeSet<String> got = new TreeSet<>();
        TreeSet<String> publicNames = new TreeSet<>();
        for (Method m : GridConverter.class.getDeclaredMethods()) {
            if (!Modifier.isPrivate(m.getModifiers()) && !m.isSynthetic()) {
                due.same(m + " is public and no more", m.getModifiers(), Modifier.PUBLIC);
                got.add(faceOf(m));
                publicNames.add(m.getName());
            }
        }
        for (Method m : GridConverter.class.getDeclaredMethods()) {
            if (Modifier.isPrivate(m.getModifiers())) {
                due.same(m.getName() + " is a public name", publicNames.contains(m.getName()), false);
            }
        }
        due.same("the methods are " + got, got.equals(want), true);
    }

    private static String faceOf(Method m) {
        StringBuilder types = new StringBuilder();
        for (Class<?> type : m.getParameterTypes()) {
            types.append(types.length() == 0 ? "" : ", ").append(type.getName());
        }
        return m.getReturnType().getName() + " " + m.getName() + "(" + types + ")";
    }

    private static void fields(Due due) {
        int shown = 0;
        for (Field f : GridConverter.class.getDeclaredFields()) {
            if (!Modifier.isPrivate(f.getModifiers())) {
                shown++;
                due.same(f + " is NONE", f.getName().equals("NONE"), true);
            }
        }
        due.same("fields that are shown", shown, 1);
    }

    private static void constructors(Due due) throws ReflectiveOperationException {
        Constructor<?>[] all = GridConverter.class.getDeclaredConstructors();
        due.same("constructors", all.length, 1);
        due.same("it is public", GridConverter.class.getConstructor().getModifiers(), Modifier.PUBLIC);
    }
}
