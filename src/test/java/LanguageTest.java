import java.io.IOException;
import java.lang.reflect.Field;
import java.lang.reflect.Method;
import java.lang.reflect.Modifier;
import java.nio.file.Files;
import java.nio.file.Path;
import java.util.HashSet;
import java.util.List;
import java.util.Set;
import java.util.regex.Matcher;
import java.util.regex.Pattern;

/** The rules of LANGUAGE.md, as far as words of the program, and what is compiled of it, show them. */
public final class LanguageTest {
    private static final Check CHECK = new Check("LanguageTest");
    private static final String[] FORBIDDEN = {
        "throw", "throws", "try", "catch", "finally", "synchronized", "assert", "package", "protected",
        "System\\.out", "System\\.err", "System\\.exit", "System\\.currentTimeMillis", "System\\.nanoTime",
        "Random", "Thread", "Exact", "Object", "HashMap", "BigInteger", "hashCode", "equals", "toString",
        "yield", "->", "::", "@\\w+", "while \\(true\\)", "for \\(;;\\)", "volatile", "native", "transient",
        "List", "Stream", "Class", "Runnable", "Comparator"};
    private static final Set<String> LIBRARY = Set.of("System.arraycopy", "Arrays.fill", "Arrays.copyOf",
            "Arrays.copyOfRange", "Integer.bitCount", "Long.bitCount", "Math.min", "Math.max", "Math.abs");
    private static final int MOST_LINES = 60, MOST_CLASSES = 12, MOST_FIELDS = 20, MOST_PARAMETERS = 7;

    public static void main(String[] args) throws IOException {
        String text = Files.readString(Path.of(args.length > 0 ? args[0] : "src/main/java/WhoSaysOne.java"));
        words(text);
        lengths(text);
        face();
        classes();
        CHECK.end();
    }

    private static void words(String text) {
        String code = text.replaceAll("(?s)/\\*.*?\\*/", "").replaceAll("//[^\n]*", "");
        for (String word : FORBIDDEN) {
            boolean plain = Character.isLetter(word.charAt(0));
            Matcher found = Pattern.compile(plain ? "\\b" + word + "\\b" : word).matcher(code);
            CHECK.due("the word " + word, found.find() ? 1 : 0, 0);
        }
        Matcher imports = Pattern.compile("import ([\\w.]+);").matcher(code);
        while (imports.find()) {
            CHECK.due("import " + imports.group(1), imports.group(1).equals("java.util.Arrays") ? 1 : 0, 1);
        }
        Matcher calls = Pattern.compile("\\b(System|Arrays|Integer|Long|Math|String)\\.\\w+").matcher(code);
        while (calls.find()) {
            CHECK.due("of the library: " + calls.group(), LIBRARY.contains(calls.group()) ? 1 : 0, 1);
        }
        // All that a run needs is made with the object: no call makes more.
        for (String line : code.split("\n")) {
            if (line.contains("new ")) {
                boolean atFirst = line.contains(" final ") || line.matches(" {12}\\w+\\[\\w\\] = new \\w+\\(\\);");
                CHECK.due("made once: " + line.trim(), atFirst ? 1 : 0, 1);
            }
        }
        CHECK.due("signs beyond 127", text.chars().filter(c -> c > 127).count(), 0);
    }

    /** A method begins at its indent with a brace at the end, and ends with a brace at the same indent. */
    private static void lengths(String text) {
        String[] lines = text.split("\n");
        for (int i = 0; i < lines.length; i++) {
            Matcher head = Pattern.compile("^( {4}| {8})\\w.*\\) \\{$").matcher(lines[i]);
            if (head.find()) {
                int end = i;
                while (!lines[end].equals(head.group(1) + "}")) {
                    end++;
                }
                CHECK.due("short enough: " + lines[i].trim(), end - i < MOST_LINES ? 1 : 0, 1);
            }
        }
    }

    private static void face() {
        Set<String> publicNames = new HashSet<>();
        for (Method one : WhoSaysOne.class.getDeclaredMethods()) {
            if (Modifier.isPublic(one.getModifiers())) {
                publicNames.add(one.getName());
            }
        }
        CHECK.due("methods of the face", publicNames.size(), 46);
        for (Method one : WhoSaysOne.class.getDeclaredMethods()) {
            int is = one.getModifiers();
            if (!one.isSynthetic()) {
                CHECK.due(one + " is public or private", Modifier.isPublic(is) || Modifier.isPrivate(is) ? 1 : 0, 1);
            }
            if (!Modifier.isPublic(is)) {
                CHECK.due(one + " has a name of its own", publicNames.contains(one.getName()) ? 1 : 0, 0);
            }
        }
        for (Class<?> inside : WhoSaysOne.class.getDeclaredClasses()) {
            for (Method one : inside.getDeclaredMethods()) {
                CHECK.due(one + " has a name of its own", publicNames.contains(one.getName()) ? 1 : 0, 0);
            }
        }
        Set<String> constants = new HashSet<>(List.of("BAD", "FULL", "FINDING", "STATE", "SPENT", "NONE"));
        for (Field one : WhoSaysOne.class.getDeclaredFields()) {
            boolean open = constants.contains(one.getName());
            CHECK.due(one + " is as told", Modifier.isPublic(one.getModifiers()) == open ? 1 : 0, 1);
            CHECK.due(one + " is as told", open || Modifier.isPrivate(one.getModifiers()) ? 1 : 0, 1);
        }
        CHECK.due("final", Modifier.isFinal(WhoSaysOne.class.getModifiers()) ? 1 : 0, 1);
        CHECK.due("constructors", WhoSaysOne.class.getConstructors().length, 1);
    }

    private static void classes() {
        Class<?>[] inside = WhoSaysOne.class.getDeclaredClasses();
        CHECK.due("classes are few", inside.length + 1 <= MOST_CLASSES ? 1 : 0, 1);
        dueClass(WhoSaysOne.class);
        for (Class<?> one : inside) {
            CHECK.due(one + " is static", Modifier.isStatic(one.getModifiers()) ? 1 : 0, 1);
            dueClass(one);
        }
    }

    private static void dueClass(Class<?> one) {
        int fields = 0;
        for (Field field : one.getDeclaredFields()) {
            int is = field.getModifiers();
            fields += Modifier.isStatic(is) ? 0 : 1;
            CHECK.due(field + " is final, if static", !Modifier.isStatic(is) || Modifier.isFinal(is) ? 1 : 0, 1);
        }
        CHECK.due(one + " has few fields", fields <= MOST_FIELDS ? 1 : 0, 1);
        for (Method method : one.getDeclaredMethods()) {
            CHECK.due(method + " has few parameters", method.getParameterCount() <= MOST_PARAMETERS ? 1 : 0, 1);
        }
    }
}
