import java.io.ByteArrayOutputStream;
import java.io.IOException;
import java.io.PrintStream;
import java.lang.reflect.Field;
import java.lang.reflect.Method;
import java.lang.reflect.Modifier;
import java.net.URL;
import java.net.URLClassLoader;
import java.nio.file.Files;
import java.nio.file.Path;
import java.util.Arrays;
import java.util.Comparator;
import java.util.List;
import java.util.stream.Stream;
import javax.tools.ToolProvider;

/** What README.md shows and lists is true of the class and of the tests. */
public final class ReadmeTest {
    private static final Path README = Path.of("README.md");
    private static final Path TESTS = Path.of("src/test/java");
    private final Check check = new Check();
    private final String text;

    private ReadmeTest(String text) {
        this.text = text;
    }

    public static void main(String[] args) throws IOException, ReflectiveOperationException {
        ReadmeTest test = new ReadmeTest(Files.readString(README));
        test.examplePrintsWhatItSays();
        test.tablesNameTheFace();
        test.testsAreNamed();
        test.check.end();
    }

    private void examplePrintsWhatItSays() throws IOException, ReflectiveOperationException {
        check.part("the example");
        Path room = Files.createTempDirectory("readme");
        try {
            Path source = Files.writeString(room.resolve("Example.java"), block("java"));
            String classes = System.getProperty("java.class.path");
            int compiled = ToolProvider.getSystemJavaCompiler()
                .run(null, null, null, "-cp", classes, "-d", room.toString(), source.toString());
            check.due("javac", compiled, 0);
            if (compiled == 0) {
                dueLines(outputOf(room).lines().toList(), block("text").lines().toList());
            }
        } finally {
            remove(room);
        }
    }

    private void dueLines(List<String> got, List<String> want) {
        check.due("lines printed", got.size(), want.size());
        for (int i = 0; i < Math.min(got.size(), want.size()); i++) {
            check.dueTrue("line " + (i + 1) + ": " + got.get(i) + ", said is " + want.get(i),
                got.get(i).equals(want.get(i)));
        }
    }

    /** The first fenced block of this language. */
    private String block(String language) {
        String open = "```" + language + "\n";
        int from = text.indexOf(open);
        int to = from < 0 ? -1 : text.indexOf("```", from + open.length());
        check.dueTrue("a block of " + language, to >= 0);
        return to < 0 ? "" : text.substring(from + open.length(), to);
    }

    private static String outputOf(Path classes) throws IOException, ReflectiveOperationException {
        ByteArrayOutputStream printed = new ByteArrayOutputStream();
        PrintStream before = System.out;
        try (URLClassLoader loader = new URLClassLoader(new URL[] {classes.toUri().toURL()})) {
            System.setOut(new PrintStream(printed, true));
            loader.loadClass("Example").getMethod("main", String[].class).invoke(null, (Object) new String[0]);
        } finally {
            System.setOut(before);
        }
        return printed.toString();
    }

    private static void remove(Path room) throws IOException {
        try (Stream<Path> paths = Files.walk(room)) {
            for (Path path : paths.sorted(Comparator.reverseOrder()).toList()) {
                Files.delete(path);
            }
        }
    }

    private void tablesNameTheFace() throws IllegalAccessException {
        check.part("the tables");
        for (Method m : SegmentLog.class.getDeclaredMethods()) {
            if (Modifier.isPublic(m.getModifiers())) {
                check.dueTrue(m.getName(), namesCall(m));
            }
        }
        for (Field f : SegmentLog.class.getFields()) {
            check.dueTrue(f.getName(), text.contains("| `" + f.getName() + "` | " + f.getInt(null) + " |"));
        }
    }

    private boolean namesCall(Method m) {
        String start = "| `" + m.getReturnType().getName() + " " + m.getName() + "(";
        int from = text.indexOf(start);
        if (from < 0) {
            return false;
        }
        String parameters = text.substring(from + start.length(), text.indexOf(")", from));
        String[] types = Arrays.stream(m.getParameterTypes()).map(Class::getName).toArray(String[]::new);
        String[] said = Stream.of(parameters.split(", *")).filter(p -> !p.isEmpty())
            .map(p -> p.split(" ")[0]).toArray(String[]::new);
        return Arrays.equals(types, said);
    }

    private void testsAreNamed() throws IOException {
        check.part("the list of tests");
        try (Stream<Path> paths = Files.list(TESTS)) {
            for (Path path : paths.toList()) {
                String name = path.getFileName().toString().replace(".java", "");
                check.dueTrue(name, text.contains("`" + name + "`"));
            }
        }
    }
}
