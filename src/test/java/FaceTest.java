import java.io.IOException;
import java.lang.management.ManagementFactory;
import java.lang.reflect.Constructor;
import java.lang.reflect.Field;
import java.lang.reflect.Method;
import java.lang.reflect.Modifier;
import java.nio.file.Files;
import java.nio.file.Path;
import java.util.Arrays;
import java.util.Set;
import java.util.TreeSet;
import java.util.stream.Collectors;

/** The public face, and those rules of the language that a test can see. */
public final class FaceTest {
    private static final Path SOURCE = Path.of("src/main/java/SegmentLog.java");
    private static final Set<String> METHODS = Set.of("int format(int)", "int add(long,long)", "int flush()",
        "int sync()", "int commit(int)", "int crash(int)", "int open()", "int acknowledged()", "long get(long)",
        "int times(long)", "long record(int,int)", "int file(int,int)", "int use(int)", "int octet(int,int)",
        "int poke(int,int,int)", "int bad()", "int queued(int)", "int count(int)");
    private static final String[] FORBIDDEN = {"throw", "throws", "try", "catch", "synchronized", "assert", "import",
        "double", "float", "protected", "abstract", "volatile", "Random", "System"};
    private final Check check = new Check();

    public static void main(String[] args) throws IOException {
        FaceTest test = new FaceTest();
        test.classItself();
        test.members();
        test.innerClasses();
        test.words();
        test.callsMakeNoObjects();
        test.check.end();
    }

    private void classItself() {
        check.part("class");
        int modifiers = SegmentLog.class.getModifiers();
        check.dueTrue("public final", Modifier.isPublic(modifiers) && Modifier.isFinal(modifiers));
        Constructor<?>[] constructors = SegmentLog.class.getDeclaredConstructors();
        check.due("constructors", constructors.length, 1);
        check.dueTrue("public constructor", Modifier.isPublic(constructors[0].getModifiers()));
        int[] constants = {SegmentLog.BAD, SegmentLog.NONE, SegmentLog.FULL, SegmentLog.CLOSED, SegmentLog.TURN};
        for (int i = 0; i < constants.length; i++) {
            check.due("constant " + i, constants[i], -1 - i);
        }
    }

    private void members() {
        check.part("members");
        Set<String> found = new TreeSet<>();
        Set<String> names = new TreeSet<>();
        for (Method m : SegmentLog.class.getDeclaredMethods()) {
            if (!Modifier.isPrivate(m.getModifiers())) {
                found.add(signature(m));
                names.add(m.getName());
            }
        }
        check.dueTrue("public methods: " + found, found.equals(METHODS));
        for (Method m : SegmentLog.class.getDeclaredMethods()) {
            boolean hidesPublic = Modifier.isPrivate(m.getModifiers()) && names.contains(m.getName());
            check.dueTrue("private " + m.getName(), !hidesPublic);
        }
        Set<String> constants = Set.of("BAD", "NONE", "FULL", "CLOSED", "TURN");
        for (Field f : SegmentLog.class.getDeclaredFields()) {
            boolean isPublic = Modifier.isPublic(f.getModifiers());
            check.dueTrue("field " + f.getName(), isPublic == constants.contains(f.getName()));
            check.dueTrue("hidden field " + f.getName(), isPublic || Modifier.isPrivate(f.getModifiers()));
            dueStaticIsFinal(f);
        }
    }

    private static String signature(Method m) {
        String parameters = Arrays.stream(m.getParameterTypes()).map(Class::getName).collect(Collectors.joining(","));
        return m.getReturnType().getName() + " " + m.getName() + "(" + parameters + ")";
    }

    private void dueStaticIsFinal(Field f) {
        int modifiers = f.getModifiers();
        check.dueTrue("static " + f.getName(), !Modifier.isStatic(modifiers) || Modifier.isFinal(modifiers));
    }

    private void innerClasses() {
        check.part("classes inside");
        Class<?>[] inside = SegmentLog.class.getDeclaredClasses();
        check.dueTrue("at most twelve classes", inside.length < 12);
        for (Class<?> c : inside) {
            int modifiers = c.getModifiers();
            check.dueTrue(c.getName(), Modifier.isStatic(modifiers) && !Modifier.isPublic(modifiers));
            for (Field f : c.getDeclaredFields()) {
                dueStaticIsFinal(f);
            }
            for (Method m : c.getDeclaredMethods()) {
                boolean ofTheFace = METHODS.stream().anyMatch(face -> face.contains(" " + m.getName() + "("));
                check.dueTrue(c.getName() + "." + m.getName(), !ofTheFace);
            }
        }
    }

    private void words() throws IOException {
        check.part("words");
        String code = Files.readString(SOURCE).replaceAll("(?s)/\\*.*?\\*/", " ").replaceAll("//[^\n]*", " ");
        Set<String> words = new TreeSet<>(Arrays.asList(code.split("[^A-Za-z0-9_]+")));
        for (String word : FORBIDDEN) {
            check.dueTrue(word, !words.contains(word));
        }
        check.dueTrue("no lambda or method reference", !code.contains("->") && !code.contains("::"));
    }

    /** All calls of one run share one room: only the constructor may take from it. */
    private void callsMakeNoObjects() {
        check.part("objects");
        var threads = (com.sun.management.ThreadMXBean) ManagementFactory.getThreadMXBean();
        SegmentLog log = new SegmentLog();
        long least = Long.MAX_VALUE;
        for (int turn = 0; turn < 5; turn++) {
            long before = threads.getCurrentThreadAllocatedBytes();
            manyCalls(log);
            least = Math.min(least, threads.getCurrentThreadAllocatedBytes() - before);
        }
        check.dueTrue("bytes taken by calls: " + least, least < 1000);
    }

    private static void manyCalls(SegmentLog log) {
        log.format(64);
        for (int i = 0; i < 400; i++) {
            log.add(i % 7, i);
            log.get(i % 7);
            log.times(i % 7);
            log.record(i, i % 3);
            log.bad();
            log.acknowledged();
            if (i % 5 == 0) {
                log.flush();
                log.commit(i % 3 == 0 ? i : -1);
            }
            if (i % 11 == 0) {
                log.crash(i);
            }
            log.open();
        }
    }
}
