import java.io.IOException;
import java.lang.reflect.Array;
import java.lang.reflect.Field;
import java.lang.reflect.Method;
import java.lang.reflect.Modifier;
import java.net.URL;
import java.net.URLClassLoader;
import java.nio.file.Files;
import java.nio.file.Path;
import java.util.ArrayList;
import java.util.Collections;
import java.util.IdentityHashMap;
import java.util.List;
import java.util.Set;
import java.util.regex.Matcher;
import java.util.regex.Pattern;
import javax.tools.ToolProvider;

/**
 * What README.md says of answers is what the class answers: its lines of Java are compiled and run, one
 * behind the other, and each call is to answer what stands behind it. All calls of the face must be there.
 */
public final class ReadmeTest {
    private static final Check CHECK = new Check("ReadmeTest");
    private static final Pattern CODE = Pattern.compile("(?s)```java\n(.*?)```");
    private static final Pattern CALL = Pattern.compile("(x\\.(\\w+)\\(.*\\)); *// (-?\\d+)(: .*|)");
    private static final Pattern NAMED = Pattern.compile("`([A-Z]+)`(?: \\|)? (-\\d+)");
    /** What an object may be made of, all arrays and objects in it counted (README.md: some 16,000). */
    private static final int LEAST_ELEMENTS = 15500, MOST_ELEMENTS = 16500;

    public static void main(String[] args) throws Exception {
        String page = Files.readString(Path.of(args.length > 0 ? args[0] : "README.md"));
        List<String> calls = new ArrayList<>();
        List<Long> wanted = new ArrayList<>();
        List<Object> answers = run(compiled(source(page, calls, wanted)));
        CHECK.due("calls that were run", answers.size(), calls.size());
        for (int i = 0; i < answers.size() && i < calls.size(); i++) {
            CHECK.due(calls.get(i) + " (call " + (i + 1) + " of README.md)", ((Number) answers.get(i)).longValue(),
                    wanted.get(i));
        }
        dueAllCalls(calls);
        dueConstants(page);
        dueSize();
        CHECK.end();
    }

    /** The page's lines as a program that keeps each answer. */
    private static String source(String page, List<String> calls, List<Long> wanted) {
        StringBuilder source = new StringBuilder("public class Readme {\n"
                + "public static void run(java.util.List<Object> answers) {\n");
        Matcher code = CODE.matcher(page);
        while (code.find()) {
            for (String line : code.group(1).split("\n")) {
                Matcher call = CALL.matcher(line);
                if (call.matches()) {
                    calls.add(call.group(1));
                    wanted.add(Long.parseLong(call.group(3)));
                    source.append("answers.add(").append(call.group(1)).append(");\n");
                } else {
                    CHECK.due("a call has its answer behind it: " + line, line.startsWith("x.") ? 0 : 1, 1);
                    source.append(line).append('\n');
                }
            }
        }
        return source.append("}\n}\n").toString();
    }

    private static Path compiled(String source) throws IOException {
        Path directory = Files.createTempDirectory("readme");
        Path file = directory.resolve("Readme.java");
        Files.writeString(file, source);
        int refused = ToolProvider.getSystemJavaCompiler().run(null, null, null, "-proc:none", "-cp",
                System.getProperty("java.class.path"), "-d", directory.toString(), file.toString());
        CHECK.due("javac of README.md's lines", refused, 0);
        return directory;
    }

    private static List<Object> run(Path directory) throws Exception {
        List<Object> answers = new ArrayList<>();
        try (URLClassLoader loader = new URLClassLoader(new URL[] {directory.toUri().toURL()})) {
            loader.loadClass("Readme").getMethod("run", List.class).invoke(null, answers);
        }
        for (String name : new String[] {"Readme.java", "Readme.class", ""}) {
            Files.deleteIfExists(directory.resolve(name));
        }
        return answers;
    }

    /** put() stands within a loop there, and so has no answer behind it. */
    private static void dueAllCalls(List<String> calls) {
        for (Method one : WhoSaysOne.class.getDeclaredMethods()) {
            if (Modifier.isPublic(one.getModifiers()) && !one.getName().equals("put")) {
                String start = "x." + one.getName() + "(";
                long many = calls.stream().filter(call -> call.startsWith(start)).count();
                CHECK.due("README.md shows " + start + "..)", many > 0 ? 1 : 0, 1);
            }
        }
    }

    private static void dueConstants(String page) throws ReflectiveOperationException {
        int many = 0;
        Matcher named = NAMED.matcher(page);
        while (named.find()) {
            many++;
            CHECK.due(named.group(1), WhoSaysOne.class.getField(named.group(1)).getInt(null),
                    Long.parseLong(named.group(2)));
        }
        CHECK.due("constants that README.md tells", many, 6);
    }

    /** One run of calls lives in a room that is counted, so that no call makes more than a new object has. */
    private static void dueSize() throws ReflectiveOperationException {
        int size = elements(new WhoSaysOne(), Collections.newSetFromMap(new IdentityHashMap<>()));
        CHECK.due("elements of an object, " + size + ", are some 16,000",
                size >= LEAST_ELEMENTS && size <= MOST_ELEMENTS ? 1 : 0, 1);
    }

    private static int elements(Object one, Set<Object> seen) throws ReflectiveOperationException {
        if (one == null || !seen.add(one)) {
            return 0;
        }
        int many = 0;
        if (one.getClass().isArray()) {
            many = Array.getLength(one);
            for (int i = 0; i < Array.getLength(one) && !one.getClass().getComponentType().isPrimitive(); i++) {
                many += elements(Array.get(one, i), seen);
            }
            return many;
        }
        for (Class<?> of = one.getClass(); of != Object.class; of = of.getSuperclass()) {
            for (Field field : of.getDeclaredFields()) {
                if (!Modifier.isStatic(field.getModifiers())) {
                    field.setAccessible(true);
                    many += 1 + (field.getType().isPrimitive() ? 0 : elements(field.get(one), seen));
                }
            }
        }
        return many;
    }
}
