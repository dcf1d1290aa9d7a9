/** Promises 41 to 47: what is told. */
public final class TellingTest {
    private static final Check CHECK = new Check("TellingTest");

    public static void main(String[] args) {
        askedByTheRightCalls();
        askedStaysWhenRefused();
        fractions();
        counts();
        findings();
        digests();
        CHECK.end();
    }

    private static void askedByTheRightCalls() {
        WhoSaysOne x = Check.of("pc n5n6");
        Check.fill(x, 0, 77);
        x.at(0, 0);
        x.row(1, 3);
        x.copy(0, 0, 1, 0, 1);
        x.put(0, 0, 112);
        x.fault(0);
        x.law();
        x.player(0);
        x.mark(1, 5);
        x.may(9);
        x.said(0);
        x.undo(2);
        x.keep(0);
        x.on(0);
        x.ways(60);
        x.byJust(60, 11);
        x.gaps(2);
        x.rest(5, 2);
        x.common();
        x.from();
        x.best(2);
        x.share();
        x.says(0);
        x.play(0, 1);
        x.count(2);
        x.finding();
        x.findings(1);
        x.digest();
        x.tear(1);
        x.text(1, 3);
        x.say(7);
        x.game(0);
        CHECK.due("asked() is of at()", x.asked(), 77);
    }

    private static void askedStaysWhenRefused() {
        WhoSaysOne x = Check.of("l1 n6");
        Check.fill(x, 0, 77);
        Check.fill(x, 1, 1, 1);
        x.at(0, 0);
        x.lay(0, 1, 5);
        x.mean(2);
        x.had(0);
        x.greatest();
        x.wish(5);
        x.whose();
        x.lasts();
        x.list(1);
        x.tree(10, 0);
        CHECK.due("asked() is of at()", x.asked(), 77);
        x = Check.of("n6n9");
        Check.fill(x, 0, 77);
        x.at(0, 0);
        CHECK.due("wish(1)", x.wish(1), -9);
        CHECK.due("NONE tells nothing", x.asked(), 77);
        x.turn();
        CHECK.due("turn() tells NONE", x.asked(), -9);
    }

    private static void fractions() {
        WhoSaysOne x = Check.of("n5n6");
        x.ways(60);
        CHECK.due("upper()", x.upper(), 3);
        x.tree(4, 4);
        CHECK.due("upper()", x.upper(), 7);
        CHECK.due("lower()", x.lower(), 1);
        x.share();
        CHECK.due("upper()", x.upper(), 1);
        CHECK.due("lower()", x.lower(), 10);
        x.ways(0);
        x.byJust(1, 0);
        x.tree(0, 18);
        CHECK.due("upper() stays", x.upper(), 1);
        CHECK.due("lower() stays", x.lower(), 10);
        x.byJust(60, 11);
        CHECK.due("upper()", x.upper(), 1);
        CHECK.due("lower()", x.lower(), 1);
    }

    private static void counts() {
        WhoSaysOne x = Check.of("gc n5n6");
        x.row(0, 1);
        x.row(5, 0);
        x.keep(2);
        int[] want = {2, 2, 10, 1, 1, 1, 2, 1};
        for (int what = 0; what < 8; what++) {
            CHECK.due("count(" + what + ")", x.count(what), want[what]);
        }
        CHECK.due("count(-1)", x.count(-1), -1);
        CHECK.due("count(8)", x.count(8), -1);
        x = Check.of("sg");
        CHECK.due("count(3)", x.count(3), 2);
        CHECK.due("count(4)", x.count(4), 0);
        x = Check.of("ac");
        CHECK.due("count(4)", x.count(4), 2);
        x = Check.of("pb");
        CHECK.due("count(3)", x.count(3), 0);
        CHECK.due("count(4)", x.count(4), 0);
    }

    private static void findings() {
        WhoSaysOne x = Check.of("p");
        x.tear(0);
        x.said(0);
        x.mark(0, 1);
        x.greatest();
        x.gaps(0);
        x.row(0, -1);
        int[] want = {1, 1, 1, 2, 1};
        for (int f = 1; f <= 5; f++) {
            CHECK.due("findings(" + f + ")", x.findings(f), want[f - 1]);
        }
        CHECK.due("finding()", x.finding(), 5);
        CHECK.due("findings(0)", x.findings(0), -1);
        CHECK.due("findings(6)", x.findings(6), -1);
        CHECK.due("finding() stays", x.finding(), 5);
    }

    private static long digestOf(long... values) {
        long h = 17;
        for (long v : values) {
            h = 31 * h + v;
        }
        return h;
    }

    private static void digests() {
        WhoSaysOne x = new WhoSaysOne();
        CHECK.due("of a new one", x.digest(),
                digestOf(0, 0, 60, 0, 0, 0, 0, 0, 0, -1, -1, -1, -1, -1, -1, -1, -1, -1, -1, -1, -1, -1));
        x = Check.of("l1sc n12");
        x.keep(1);
        x.say(8);
        Check.fill(x, 2, 7, -7);
        x.text(0, 0);
        x.text(3, 1);
        x.put(3, 0, 200);
        CHECK.due("of another", x.digest(),
                digestOf(2, 2, 45, 1, 1, 1, 1, 2, 1, 1, 5, 12, 8, -1, 1, 12, -1,
                        -1, -1, 2, 7, -7, -1, -1, -1, 0, -1, -1, 1, -56));
    }
}
