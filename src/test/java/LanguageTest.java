import com.sun.management.ThreadMXBean;
import java.io.IOException;
import java.lang.management.ManagementFactory;
import java.lang.reflect.Field;
import java.lang.reflect.Method;
import java.lang.reflect.Modifier;
import java.nio.file.Files;
import java.nio.file.Path;
import java.util.ArrayList;
import java.util.List;
import java.util.Set;
import java.util.regex.Matcher;
import java.util.regex.Pattern;

/** Those rules of LANGUAGE.md that can be looked up: in the text, by reflection, and by what a run makes. */
public final class LanguageTest {
    private static final Path SOURCE = Path.of("src/main/java/GridConverter.java");
    private static final Pattern COMMENTS_AND_TEXTS = Pattern.compile("(?s)/\\*.*?\\*/|//[^\n]*|\"[^\"\n]*\"");
    private static final String[] RULED_OUT = {"->", "::", "\\bpackage\\b", "\\bfinally\\b", "\\bsynchronized\\b",
        "\\bassert\\b", "\\btry\\b", "\\bdouble\\b", "\\bfloat\\b", "\\bObject\\b", "\\bSystem\\.(?!arraycopy)",
        "Exact\\b", "\\[\\]\\[\\]"};
    private static final Set<String> THROWN =
        Set.of("IllegalStateException", "IllegalArgumentException", "IndexOutOfBoundsException");
    private static final Set<String> IMPORTS = Set.of("java.util.Arrays");
    private static final Set<String> OF_ARRAYS = Set.of("fill", "copyOf", "copyOfRange");
    private static final Set<String> OF_MATH = Set.of("max", "min", "abs", "floorDiv", "floorMod");
    private static final Set<Class<?>> CONSTANTS = Set.of(int.class, long.class, int[].class);

    public static void main(String[] args) throws IOException, ReflectiveOperationException {
        Due due = new Due("LanguageTest");
        text(due, COMMENTS_AND_TEXTS.matcher(Files.readString(SOURCE)).replaceAll(" "));
        classes(due);
        aTotalThatWraps(due);
        noCallMakesAnObject(due);
        due.end();
    }

    /** Rules 2, 3, 4, 6. */
    private static void text(Due due, String code) {
        for (String form : RULED_OUT) {
            due.same("the class holds " + form, Pattern.compile(form).matcher(code).find(), false);
        }
        only(due, code, "import ([\\w.*]+)", IMPORTS);
        only(due, code, "\\bArrays\\.(\\w+)", OF_ARRAYS);
        only(due, code, "\\bMath\\.(\\w+)", OF_MATH);
        only(due, code, "\\bthrow new (\\w+)", THROWN);
        due.same("every throw makes its exception", Pattern.compile("\\bthrow (?!new )").matcher(code).find(), false);
    }

    private static void only(Due due, String code, String form, Set<String> allowed) {
        for (Matcher m = Pattern.compile(form).matcher(code); m.find();) {
            due.same(m.group() + " is allowed", allowed.contains(m.group(1)), true);
        }
    }

    /** Rules 1, 2, 5, 11. */
    private static void classes(Due due) {
        List<Class<?>> all = new ArrayList<>(List.of(GridConverter.class.getDeclaredClasses()));
        for (Class<?> inside : all) {
            due.same(inside + " is static", Modifier.isStatic(inside.getModifiers()), true);
            due.same(inside + " is shown", Modifier.isPublic(inside.getModifiers()), false);
        }
        all.add(GridConverter.class);
        due.same("at most twelve classes", all.size() <= 12, true);
        for (Class<?> one : all) {
            fields(due, one);
            for (Method m : one.getDeclaredMethods()) {
                due.same(m + " has at most seven parameters", m.getParameterCount() <= 7, true);
            }
        }
    }

    private static void fields(Due due, Class<?> one) {
        int held = 0;
        for (Field f : one.getDeclaredFields()) {
            if (Modifier.isStatic(f.getModifiers())) {
                due.same(f + " is final", Modifier.isFinal(f.getModifiers()), true);
                due.same(f + " has a constant's type", CONSTANTS.contains(f.getType()), true);
            } else {
                held++;
            }
        }
        due.same(one + " has at most twenty fields", held <= 20, true);
    }

    /** Rule 7: no call throws by itself in any state, not even where so many events are that their number wraps. */
    private static void aTotalThatWraps(Due due) throws ReflectiveOperationException {
        GridConverter x = Ready.wished(Ready.lenient());
        Field events = GridConverter.class.getDeclaredField("events");
        events.setAccessible(true);
        Field total = events.getType().getDeclaredField("total");
        total.setAccessible(true);
        total.setInt(events.get(x), Integer.MAX_VALUE);
        for (int i = 0; i < 40; i++) {
            due.thrown("closing past the greatest number of events", () -> x.sample(0, 0, 0), null);
            due.thrown("opening past the greatest number of events", x::off, null);
            x.on();
        }
        due.same("how many events", x.state(Ready.EVENTS), Integer.MAX_VALUE + 80);
    }

    /** Rule 12, and the one room that all calls live in. */
    private static void noCallMakesAnObject(Due due) {
        ThreadMXBean threads = (ThreadMXBean) ManagementFactory.getThreadMXBean();
        threads.setThreadAllocatedMemoryEnabled(true);
        long made = Long.MAX_VALUE;
        for (int again = 0; again < 3; again++) {
            GridConverter x = new GridConverter();
            long before = threads.getCurrentThreadAllocatedBytes();
            allCalls(x);
            made = Math.min(made, threads.getCurrentThreadAllocatedBytes() - before);
        }
        due.same("bytes made by calls", made, 0);
    }

    private static void allCalls(GridConverter x) {
        for (int i = 0; i < 20; i++) {
            x.set(2, 5);
            x.set(11, i % 2 == 0 ? 200 : 20);
            x.curve(0, 1, 5000, 10);
            x.stay(0, 1, 4000, 5);
            x.check();
            x.power(5000, 100);
            x.grid(i % 3 == 2 ? 1000 : 10000, 50000, 0);
            x.on();
            x.run(100);
            x.seen(x.state(0) == 1);
            x.sample(10000, -5000, -5000);
            x.signal(1);
            x.count(0);
            x.energy();
            x.event(0, 0);
            x.off();
            x.run(19);
            x.seen(false);
            x.run(10);
            x.reset();
        }
    }
}
