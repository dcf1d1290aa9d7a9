/** What the tests share: counting of checks, and making a GAME of a text. */
final class Check {
    private int done;
    private int wrong;
    private final String name;

    Check(String name) {
        this.name = name;
    }

    void due(String call, long got, long want) {
        done++;
        if (got != want) {
            wrong++;
            System.out.println(name + ": " + call + " answered " + got + ", due is " + want);
        }
    }

    void end() {
        System.out.println(name + ": " + (done - wrong) + " checks held, " + wrong + " did not");
        if (wrong != 0 || done == 0) {
            System.exit(1);
        }
    }

    /** Writes a text into TEXT t. */
    static void write(WhoSaysOne x, int t, String what) {
        x.text(t, what.length());
        for (int i = 0; i < what.length(); i++) {
            x.put(t, i, what.charAt(i));
        }
    }

    /** A new object with the GAME of a text (in TEXT 0). */
    static WhoSaysOne of(String what) {
        WhoSaysOne x = new WhoSaysOne();
        write(x, 0, what);
        int answer = x.game(0);
        if (answer < 0) {
            throw new IllegalStateException("no GAME: " + what + " (" + answer + ")");
        }
        return x;
    }

    /** Makes a ROW of these ints. */
    static void fill(WhoSaysOne x, int r, int... values) {
        x.row(r, values.length);
        for (int i = 0; i < values.length; i++) {
            x.lay(r, i, values[i]);
        }
    }

    /** The places of a ROW that is known to have n of them. */
    void dueRow(WhoSaysOne x, int r, int... values) {
        for (int i = 0; i < values.length; i++) {
            due("at(" + r + ", " + i + ")", x.at(r, i), 1);
            due("place " + i + " of row " + r, x.asked(), values[i]);
        }
        due("at(" + r + ", " + values.length + ")", x.at(r, values.length), WhoSaysOne.FINDING);
    }
}
