import java.io.IOException;
import java.nio.charset.StandardCharsets;
import java.nio.file.Files;
import java.nio.file.Path;
import java.util.HashMap;
import java.util.LinkedHashSet;
import java.util.Map;
import java.util.Set;

/**
 * Tests by the document's own words: each names its promise and the sentence that would be broken, and
 * that sentence must stand in the document. At the end no words of a promise may be without a test.
 */
final class Sentences {
    /** Numbers of sections that are no promises. */
    static final int TERMS = 0, USE = -1;

    private static final int PROMISES = 47;

    private final Map<Integer, String> sections = new HashMap<>();
    private final Map<Integer, boolean[]> tested = new HashMap<>();
    private final Set<String> names = new LinkedHashSet<>();
    private final Set<String> broken = new LinkedHashSet<>();
    private String now = "";
    private int checks;
    private int wrong;

    /** Where the document is not, the tests still run, without a look at its words. */
    Sentences(Path document) throws IOException {
        if (!Files.isReadable(document)) {
            System.out.println("BoundsTest: " + document + " is not there; its words are not looked at");
            return;
        }
        String all = Files.readString(document, StandardCharsets.UTF_8);
        put(USE, between(all, "## What it is", "## The public face"));
        put(TERMS, termsAlone(between(all, "## Terms", "## Promise 1:")));
        for (int promise = 1; promise <= PROMISES; promise++) {
            String section = between(all, "## Promise " + promise + ":", "\n## ");
            put(promise, section.substring(section.indexOf("`: ") + 3));
        }
    }

    private void put(int promise, String section) {
        sections.put(promise, section);
        tested.put(promise, new boolean[section.length()]);
    }

    private static String between(String all, String first, String next) {
        int from = all.indexOf(first);
        if (from < 0) {
            throw new IllegalStateException("the document has no '" + first + "'");
        }
        int to = all.indexOf(next, from + first.length());
        return all.substring(from + first.length(), to < 0 ? all.length() : to);
    }

    /** Without what says where the interface has its headings. */
    private static String termsAlone(String terms) {
        StringBuilder alone = new StringBuilder();
        for (String line : terms.split("\n")) {
            if (!line.startsWith("Ahead of the calls") && !line.startsWith("```")) {
                alone.append(line.replaceFirst("^=+ (ANSWERS\\.|[12])", "")).append('\n');
            }
        }
        return alone.toString();
    }

    /** One test of one sentence (or of a part of one). */
    void test(int promise, String words, Runnable body) {
        now = (promise > 0 ? "promise " + promise : promise == TERMS ? "terms" : "use") + ", \"" + words + "\"";
        names.add(now);
        int before = checks;
        due("these words stand in the document", markTested(promise, words) ? 1 : 0, 1);
        try {
            body.run();
        } catch (RuntimeException | StackOverflowError thrown) {
            due("it threw " + thrown, 1, 0);
        }
        due("it looked at something", checks > before + 1 ? 1 : 0, 1);
    }

    private boolean markTested(int promise, String words) {
        if (sections.isEmpty()) {
            return true;
        }
        String section = sections.get(promise);
        int from = section.indexOf(words);
        for (int at = from; at >= 0; at = section.indexOf(words, at + 1)) {
            for (int i = at; i < at + words.length(); i++) {
                tested.get(promise)[i] = true;
            }
        }
        return from >= 0;
    }

    void due(String call, long got, long want) {
        checks++;
        if (got != want) {
            wrong++;
            broken.add(now);
            System.out.println(now + ": " + call + " answered " + got + ", due is " + want);
        }
    }

    /** A FINDING, and which one. */
    void dueFinding(WhoSaysOne x, String call, int got, int which) {
        due(call, got, WhoSaysOne.FINDING);
        due("finding() behind " + call, x.finding(), which);
    }

    /** An answer and what asked() tells behind it. */
    void dueAsked(WhoSaysOne x, String call, int got, int want, int asked) {
        due(call, got, want);
        due("asked() behind " + call, x.asked(), asked);
    }

    /** An answer and the fraction told behind it. */
    void dueFraction(WhoSaysOne x, String call, int got, int want, long upper, long lower) {
        due(call, got, want);
        due("upper() behind " + call, x.upper(), upper);
        due("lower() behind " + call, x.lower(), lower);
    }

    /** The places of a ROW, and that it has no others. */
    void dueRow(WhoSaysOne x, int r, int... values) {
        for (int i = 0; i < values.length; i++) {
            dueAsked(x, "at(" + r + ", " + i + ")", x.at(r, i), 1, values[i]);
        }
        dueFinding(x, "at(" + r + ", " + values.length + ")", x.at(r, values.length), 2);
    }

    /** The tests so far that did not hold. */
    Set<String> broken() {
        return broken;
    }

    Set<String> names() {
        return names;
    }

    void end() {
        for (int promise = TERMS; promise <= PROMISES && !sections.isEmpty(); promise++) {
            now = promise == TERMS ? "terms" : "promise " + promise;
            String left = untested(promise);
            if (!left.isEmpty()) {
                due("without a test: " + left, 0, 1);
            }
        }
        System.out.println("BoundsTest: " + names.size() + " sentences, " + (checks - wrong) + " checks held, "
                + wrong + " did not");
        if (wrong != 0 || names.isEmpty()) {
            System.exit(1);
        }
    }

    /** The words of a section that no test names. */
    private String untested(int promise) {
        String section = sections.get(promise);
        StringBuilder left = new StringBuilder();
        for (int i = 0; i < section.length(); i++) {
            char c = section.charAt(i);
            if (!tested.get(promise)[i] && Character.isLetterOrDigit(c)) {
                left.append(c);
            } else if (left.length() > 0 && left.charAt(left.length() - 1) != ' ') {
                left.append(' ');
            }
        }
        return left.toString().trim();
    }
}
