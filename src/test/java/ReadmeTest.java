import java.io.ByteArrayOutputStream;
import java.io.IOException;
import java.io.PrintStream;
import java.net.URL;
import java.net.URLClassLoader;
import java.nio.charset.StandardCharsets;
import java.nio.file.Files;
import java.nio.file.Path;
import java.util.Comparator;
import java.util.List;
import java.util.stream.Collectors;
import java.util.stream.Stream;
import javax.tools.ToolProvider;

/** README.md's example compiles and prints what README.md says, and its table of settings is right. */
public final class ReadmeTest {
    private static final Path README = Path.of("README.md");
    private static final String CLASSES = System.getProperty("java.class.path");

    public static void main(String[] args) throws IOException, ReflectiveOperationException {
        Due due = new Due("ReadmeTest");
        List<String> lines = Files.readAllLines(README, StandardCharsets.UTF_8);
        example(due, block(lines, "```java"), block(lines, "```text"));
        settings(due, lines);
        due.end();
    }

    private static void example(Due due, String program, String said) throws IOException, ReflectiveOperationException {
        due.same("README.md says what the example prints", said.isEmpty(), false);
        Path folder = Files.createTempDirectory("readme");
        try {
            Path source = Files.writeString(folder.resolve("Example.java"), program);
            int code = ToolProvider.getSystemJavaCompiler().run(null, null, null, "--release", "17", "-Xlint:all",
                "-Werror", "-cp", CLASSES, "-d", folder.toString(), source.toString());
            due.same("the example compiles", code, 0);
            if (code == 0) {
                due.same("the example", printedBy(folder), said);
            }
        } finally {
            remove(folder);
        }
    }

    private static String printedBy(Path folder) throws IOException, ReflectiveOperationException {
        ByteArrayOutputStream printed = new ByteArrayOutputStream();
        PrintStream before = System.out;
        try (URLClassLoader loader = new URLClassLoader(new URL[] {folder.toUri().toURL()});
                PrintStream kept = new PrintStream(printed, true, StandardCharsets.UTF_8)) {
            System.setOut(kept);
            loader.loadClass("Example").getMethod("main", String[].class).invoke(null, (Object) new String[0]);
        } finally {
            System.setOut(before);
        }
        return printed.toString(StandardCharsets.UTF_8).replace(System.lineSeparator(), "\n");
    }

    private static void remove(Path folder) throws IOException {
        try (Stream<Path> all = Files.walk(folder)) {
            for (Path path : all.sorted(Comparator.reverseOrder()).collect(Collectors.toList())) {
                Files.delete(path);
            }
        }
    }

    private static String block(List<String> lines, String fence) {
        StringBuilder text = new StringBuilder();
        int first = lines.indexOf(fence) + 1;
        for (int i = first; first > 0 && i < lines.size() && !lines.get(i).equals("```"); i++) {
            text.append(lines.get(i)).append('\n');
        }
        return text.toString();
    }

    /** Rows such as "| 3, 4 | names | 0 .. 20000 | 9000, 11000 |" behind the head "| Setting |". */
    private static void settings(Due due, List<String> lines) {
        int row = 0;
        while (row < lines.size() && !lines.get(row).startsWith("| Setting |")) {
            row++;
        }
        int told = 0;
        for (row += 2; row < lines.size() && lines.get(row).startsWith("|"); row++) {
            String[] cells = lines.get(row).split(" *\\| *");
            String[] numbers = cells[1].split(", ");
            String[] bounds = cells[3].split(" \\.\\. ");
            String[] firsts = cells[4].split(", ");
            for (int j = 0; j < numbers.length; j++) {
                due.same("the setting of the row", Integer.parseInt(numbers[j]), told++);
                setting(due, told - 1, bounds, Integer.parseInt(firsts[j]));
            }
        }
        due.same("settings told", told, 12);
    }

    private static void setting(Due due, int i, String[] bounds, int first) {
        GridConverter x = new GridConverter();
        int least = Integer.parseInt(bounds[0]);
        int greatest = Integer.parseInt(bounds[1]);
        due.same("first value of setting " + i, x.set(i, least), first);
        due.same("least value of setting " + i, x.set(i, greatest), least);
        due.argument("below the least of setting " + i, () -> x.set(i, least - 1));
        due.argument("above the greatest of setting " + i, () -> x.set(i, greatest + 1));
    }
}
