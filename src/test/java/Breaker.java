import java.io.ByteArrayOutputStream;
import java.io.IOException;
import java.io.OutputStream;
import java.io.PrintStream;
import java.io.StringWriter;
import java.net.URI;
import java.nio.file.Files;
import java.nio.file.Path;
import java.util.ArrayList;
import java.util.Collections;
import java.util.Comparator;
import java.util.HashMap;
import java.util.LinkedHashSet;
import java.util.List;
import java.util.Map;
import java.util.Set;
import java.util.concurrent.atomic.AtomicInteger;
import java.util.regex.Matcher;
import java.util.regex.Pattern;
import java.util.stream.Stream;
import javax.tools.FileObject;
import javax.tools.ForwardingJavaFileManager;
import javax.tools.JavaCompiler;
import javax.tools.JavaFileManager;
import javax.tools.JavaFileObject;
import javax.tools.SimpleJavaFileObject;
import javax.tools.StandardJavaFileManager;
import javax.tools.ToolProvider;

/**
 * Breaks the program on purpose, in some thousand small ways, one at a time, and looks whether BoundsTest
 * sees it: tells the ways that it does not see, and the sentences whose tests never fail, or only when
 * many others do. It takes some minutes, so that .ci/run does not run it: java -cp DIR Breaker DIR (where
 * all is compiled to).
 */
public final class Breaker {
    private static final Path PROGRAM = Path.of("src/main/java/WhoSaysOne.java");
    private static final Path DOCUMENT = Path.of("../shared/DOC.md");
    private static final long MOST_MILLISECONDS = 20000;
    private static final int MANY = 30;

    /** What is put for what, wherever it stands in the code. */
    private static final String[][] SWAPS = {
        {" < ", " <= "}, {" <= ", " < "}, {" > ", " >= "}, {" >= ", " > "}, {" == ", " != "}, {" != ", " == "},
        {" < ", " >= "}, {" > ", " <= "}, {" && ", " || "}, {" || ", " && "}, {" + ", " - "}, {" - ", " + "},
        {" * ", " + "}, {" / ", " * "}, {" % ", " / "}, {" += ", " -= "}, {" |= ", " &= "}, {"true", "false"},
        {"false", "true"}, {"(!", "("}, {" !", " "}, {" << ", " >> "}, {" >> ", " << "}, {" & ", " | "}, {" | ", " & "},
        {"Math.min", "Math.max"}, {"Math.max", "Math.min"}, {"BAD", "STATE"}, {"SPENT", "STATE"}, {"FULL", "STATE"},
        {"return STATE", "return SPENT"}, {"return NONE", "return BAD"}, {"NONE", "0"}, {"found(NOTHING)", "found(BEYOND)"},
        {"found(BEYOND)", "found(NOTHING)"}, {"found(UNLIKE)", "found(NOUGHT)"}, {"found(NOUGHT)", "found(UNLIKE)"},
        {"found(SIZE)", "found(BEYOND)"}, {"(SMALL", "(LONG"}, {"(PAIR", "(CHANCE"}, {"ADDING", "THRICE"},
        {"DIFFERENCES", "THRICE"}, {"THRICE", "DIFFERENCES"}, {"ROWS", "TEXTS"}, {"TEXTS", "ROWS"}};
    private static final Pattern NUMBER = Pattern.compile("(?<![\\w.])(\\d+)L?(?!\\w)");
    private static final Pattern CONDITION = Pattern.compile("\\bif \\((.*)\\) \\{");
    private static final Pattern RETURNED = Pattern.compile("return (.*);");
    private static final Pattern NO_STATEMENT =
            Pattern.compile("(return|private|public|final|static|import|int|long|boolean|break|default)\\b.*");

    private final String program;
    private final Map<String, byte[]> tests = new HashMap<>();
    private final List<String> names = new ArrayList<>();
    private final List<String> broken = new ArrayList<>();
    private final AtomicInteger next = new AtomicInteger();
    private final List<String> unseen = new ArrayList<>();
    /** By each test the fewest that failed along with it: a test that fails with all others says little. */
    private final Map<String, Integer> fewestBy = new HashMap<>();
    private int compiled;

    private Breaker(String program) {
        this.program = program;
    }

    public static void main(String[] args) throws IOException, InterruptedException {
        Breaker breaker = new Breaker(Files.readString(PROGRAM));
        breaker.readTests(Path.of(args[0]));
        breaker.breakAll();
        PrintStream out = System.out;
        System.setOut(new PrintStream(OutputStream.nullOutputStream()));
        Thread[] workers = new Thread[Math.max(1, Runtime.getRuntime().availableProcessors())];
        for (int i = 0; i < workers.length; i++) {
            workers[i] = new Thread(breaker::work);
            workers[i].start();
        }
        for (Thread worker : workers) {
            worker.join();
        }
        breaker.tell(out);
        System.exit(0);
    }

    private void readTests(Path classes) throws IOException {
        try (Stream<Path> files = Files.list(classes)) {
            for (Path file : files.toArray(Path[]::new)) {
                String name = file.getFileName().toString();
                if (name.endsWith(".class") && !name.startsWith("WhoSaysOne")) {
                    tests.put(name.substring(0, name.length() - 6), Files.readAllBytes(file));
                }
            }
        }
    }

    // ---- the ways to break it

    private void breakAll() {
        int from = 0;
        int number = 0;
        boolean comment = false;
        for (String line : program.split("\n", -1)) {
            number++;
            String words = line.trim();
            comment = comment || words.startsWith("/*");
            if (!comment && !words.isEmpty() && !words.startsWith("//") && !words.startsWith("import")) {
                breakLine(from, number, line);
            }
            comment = comment && !words.endsWith("*/");
            from += line.length() + 1;
        }
    }

    private void breakLine(int from, int number, String line) {
        for (String[] swap : SWAPS) {
            for (int at = line.indexOf(swap[0]); at >= 0; at = line.indexOf(swap[0], at + 1)) {
                add(from + at, swap[0].length(), swap[1], number, line);
            }
        }
        Matcher figures = NUMBER.matcher(line);
        while (figures.find()) {
            long v = Long.parseLong(figures.group(1));
            add(from + figures.start(1), figures.group(1).length(), "" + (v + 1), number, line);
            add(from + figures.start(1), figures.group(1).length(), v == 0 ? "-1" : "" + (v - 1), number, line);
        }
        Matcher condition = CONDITION.matcher(line);
        if (condition.find()) {
            add(from + condition.start(1), condition.group(1).length(), "true", number, line);
            add(from + condition.start(1), condition.group(1).length(), "false", number, line);
        }
        Matcher returned = RETURNED.matcher(line);
        if (returned.find()) {
            for (String other : new String[] {"0", "1", "true", "false"}) {
                add(from + returned.start(1), returned.group(1).length(), other, number, line);
            }
        }
        String words = line.trim();
        if (words.endsWith(";") && !NO_STATEMENT.matcher(words).matches()) {
            add(from, line.length(), ";", number, line);
        }
    }

    private void add(int at, int length, String other, int number, String line) {
        String was = program.substring(at, at + length);
        if (!was.equals(other)) {
            names.add(String.format("line %4d: [%s] for [%s] in %s", number, other.trim(), was.trim(), line.trim()));
            broken.add(program.substring(0, at) + other + program.substring(at + length));
        }
    }

    // ---- looking whether the tests see it

    private void work() {
        JavaCompiler compiler = ToolProvider.getSystemJavaCompiler();
        StandardJavaFileManager files = compiler.getStandardFileManager(null, null, null);
        for (int i = next.getAndIncrement(); i < broken.size(); i = next.getAndIncrement()) {
            Made made = new Made(files);
            List<JavaFileObject> sources = List.of(new Source(broken.get(i)));
            boolean does = compiler.getTask(new StringWriter(), made, told -> { }, List.of("-proc:none"), null, sources).call();
            if (does) {
                note(names.get(i), brokenTests(made.classes()));
            }
        }
    }

    private synchronized void note(String name, Set<String> by) {
        compiled++;
        for (String test : by) {
            fewestBy.merge(test, by.size() - 1, Math::min);
        }
        if (by.isEmpty()) {
            unseen.add(name);
        }
    }

    /** The tests that fail; something, if they do not come to an end. */
    private Set<String> brokenTests(Map<String, byte[]> classes) {
        Set<String> by = Collections.synchronizedSet(new LinkedHashSet<>());
        Thread run = new Thread(() -> by.addAll(runTests(classes)));
        run.setDaemon(true);
        run.start();
        try {
            run.join(MOST_MILLISECONDS);
            if (run.isAlive()) {
                stop(run);
                by.add("no end");
            }
        } catch (InterruptedException stopped) {
            by.add("stopped");
        }
        return Set.copyOf(by);
    }

    /** By its name, as later Javas do not have it; there it goes on until the end. */
    private static void stop(Thread run) {
        try {
            Thread.class.getMethod("stop").invoke(run);
        } catch (ReflectiveOperationException none) {
            run.interrupt();
        }
    }

    private Set<String> runTests(Map<String, byte[]> classes) {
        try {
            Class<?> bounds = new Loader(classes, tests).loadClass("BoundsTest");
            java.lang.reflect.Method all = bounds.getDeclaredMethod("all", Path.class);
            all.setAccessible(true);
            Object sentences = all.invoke(null, DOCUMENT);
            java.lang.reflect.Method told = sentences.getClass().getDeclaredMethod("broken");
            told.setAccessible(true);
            Set<String> by = new LinkedHashSet<>();
            for (Object one : (Set<?>) told.invoke(sentences)) {
                by.add(String.valueOf(one));
            }
            return by;
        } catch (ReflectiveOperationException | LinkageError thrown) {
            return Set.of("it does not run");
        }
    }

    private void tell(PrintStream out) throws IOException {
        unseen.sort(Comparator.naturalOrder());
        unseen.forEach(out::println);
        for (String name : BoundsTest.all(DOCUMENT).names()) {
            int others = fewestBy.getOrDefault(name, Integer.MAX_VALUE);
            if (others > MANY) {
                out.println("fails with " + others + " others alone: " + name);
            }
        }
        out.println(compiled + " ways to break it, " + unseen.size() + " not seen");
    }

    private static final class Source extends SimpleJavaFileObject {
        private final String text;

        Source(String text) {
            super(URI.create("string:///WhoSaysOne.java"), Kind.SOURCE);
            this.text = text;
        }

        @Override
        public CharSequence getCharContent(boolean ignoreEncodingErrors) {
            return text;
        }
    }

    private static final class Compiled extends SimpleJavaFileObject {
        private final ByteArrayOutputStream bytes = new ByteArrayOutputStream();

        Compiled(String name) {
            super(URI.create("mem:///" + name + ".class"), Kind.CLASS);
        }

        @Override
        public OutputStream openOutputStream() {
            return bytes;
        }
    }

    private static final class Made extends ForwardingJavaFileManager<JavaFileManager> {
        private final Map<String, Compiled> all = new HashMap<>();

        Made(JavaFileManager files) {
            super(files);
        }

        @Override
        public JavaFileObject getJavaFileForOutput(Location where, String name, JavaFileObject.Kind kind, FileObject of) {
            Compiled one = new Compiled(name);
            all.put(name, one);
            return one;
        }

        Map<String, byte[]> classes() {
            Map<String, byte[]> classes = new HashMap<>();
            all.forEach((name, one) -> classes.put(name, one.bytes.toByteArray()));
            return classes;
        }
    }

    /** The broken program, and the tests anew with it. */
    private static final class Loader extends ClassLoader {
        private final Map<String, byte[]> program;
        private final Map<String, byte[]> tests;

        Loader(Map<String, byte[]> program, Map<String, byte[]> tests) {
            super(ClassLoader.getPlatformClassLoader());
            this.program = program;
            this.tests = tests;
        }

        @Override
        protected Class<?> findClass(String name) throws ClassNotFoundException {
            byte[] bytes = program.getOrDefault(name, tests.get(name));
            if (bytes == null) {
                throw new ClassNotFoundException(name);
            }
            return defineClass(name, bytes, 0, bytes.length);
        }
    }
}
