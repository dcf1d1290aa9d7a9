import java.io.IOException;
import java.nio.file.Path;

/**
 * All sentences of the document, one test for each; no words of a promise may be left without one.
 * Runs where ../shared/DOC.md is, or with the document's path as argument.
 */
public final class BoundsTest {
    public static void main(String[] args) throws IOException {
        all(Path.of(args.length > 0 ? args[0] : "../shared/DOC.md")).end();
    }

    /** All tests, for those who break the class on purpose, too. */
    static Sentences all(Path document) throws IOException {
        Sentences s = new Sentences(document);
        new TermBounds(s).all();
        new RowBounds(s).all();
        new GameBounds(s).all();
        new SayBounds(s).all();
        new SumBounds(s).all();
        new WinBounds(s).all();
        new ListBounds(s).all();
        new TellBounds(s).all();
        return s;
    }
}
