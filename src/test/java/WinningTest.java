/** Promises 32 to 37: whose it is, what PLAYERS SAY, games by LOTS. */
public final class WinningTest {
    private static final Check CHECK = new Check("WinningTest");

    public static void main(String[] args) {
        whose();
        best();
        lasts();
        share();
        refusals();
        says();
        saysBest();
        play();
        playByLots();
        playRefused();
        CHECK.end();
    }

    private static void dueWhose(String game, int want, int many) {
        WhoSaysOne x = Check.of(game);
        CHECK.due("whose() of " + game, x.whose(), want);
        CHECK.due("by how many", x.asked(), many);
    }

    private static void whose() {
        dueWhose("n2n3", 0, 0);
        dueWhose("n2n5", 1, 1);
        dueWhose("n3n4", 1, 1);
        dueWhose("n4n5", 1, 1);
        dueWhose("n5n6", 1, 1);
        dueWhose("n4n6n5", 1, 1);
        dueWhose("n4n6n7", 1, 1);
        dueWhose("n4n9n11", 1, 2);
        dueWhose("n6n7n8", 1, 3);
        dueWhose("n2n29", 1, 1);
    }

    private static void best() {
        WhoSaysOne x = Check.of("n4n9n11");
        CHECK.due("best(1)", x.best(1), 2);
        int first = x.at(1, 0) == 1 ? x.asked() : 0;
        int second = x.at(1, 1) == 1 ? x.asked() : 0;
        CHECK.due("rising", first < second ? 1 : 0, 1);
        for (int n : new int[] {first, second}) {
            x.say(n);
            CHECK.due("the other one does not win behind " + n, x.whose(), 0);
            x.undo(3);
        }
        x = Check.of("n2n3");
        x.row(4, 7);
        CHECK.due("by none", x.best(4), 0);
        CHECK.dueRow(x, 4);
        CHECK.due("best(6)", x.best(6), -1);
        CHECK.due("best(-1)", x.best(-1), -1);
    }

    private static void dueLasts(String game, int most, int least) {
        WhoSaysOne x = Check.of(game);
        CHECK.due("lasts() of " + game, x.lasts(), most);
        CHECK.due("at least", x.asked(), least);
    }

    private static void lasts() {
        dueLasts("n2n3", 1, 1);
        dueLasts("n2n7", 3, 2);
        dueLasts("n3n4", 3, 2);
        dueLasts("n4n5", 6, 3);
        dueLasts("n2n29", 14, 2);
    }

    private static void share() {
        WhoSaysOne x = Check.of("n4n9n11");
        CHECK.due("gaps(0)", x.gaps(0), 8);
        CHECK.due("share()", x.share(), 2);
        CHECK.due("upper()", x.upper(), 1);
        CHECK.due("lower()", x.lower(), 4);
        x = Check.of("n2n3");
        CHECK.due("share()", x.share(), 0);
        CHECK.due("upper()", x.upper(), 0);
        CHECK.due("lower()", x.lower(), 1);
    }

    private static void dueRefused(WhoSaysOne x, int want) {
        x.row(0, 3);
        CHECK.due("whose()", x.whose(), want);
        CHECK.due("best(0)", x.best(0), want);
        CHECK.due("lasts()", x.lasts(), want);
        CHECK.due("share()", x.share(), want);
        CHECK.due("BAD first", x.best(6), -1);
        CHECK.due("the ROW stays", x.at(0, 2), 1);
        CHECK.due("upper()", x.upper(), 0);
        CHECK.due("lower()", x.lower(), 1);
    }

    private static void refusals() {
        dueRefused(Check.of("l1n4n6"), -4);
        dueRefused(Check.of("l2n4n6"), -4);
        dueRefused(Check.of("n4n6"), -6);
        dueRefused(Check.of("n2n31"), -6);
        dueRefused(Check.of("n6n7"), -6);
        dueRefused(new WhoSaysOne(), -6);
        WhoSaysOne x = Check.of("n4n6");
        x.say(1);
        dueRefused(x, -4);
    }

    private static void dueSays(String game, int want) {
        CHECK.due("says(0) of " + game, Check.of(game).says(0), want);
    }

    private static void says() {
        dueSays("p", 2);
        dueSays("p n2", 3);
        dueSays("p n2n3", 1);
        dueSays("s", 2);
        dueSays("s n2", 3);
        dueSays("s n2n3", 1);
        dueSays("g", 31);
        dueSays("g n31", 32);
        dueSays("g n2n3", 1);
        dueSays("a", 60);
        dueSays("a n60", 2);
        dueSays("a n50", 10);
        dueSays("a n2n9", 3);
        dueSays("a n8n7n9", 11);
        dueSays("a n2n3", 1);
        dueSays("c n50", 10);
        dueSays("l1 p n30", 2);
        dueSays("l1 g n30", 15);
        dueSays("l1 s n30n20", 3);
        dueSays("l2 a n3n7n8", 52);
        dueSays("l2 g n3n4n22", 60);
        WhoSaysOne x = Check.of("p n2");
        CHECK.due("says(1)", x.says(1), -1);
        CHECK.due("says(-1)", x.says(-1), -1);
        x.say(1);
        CHECK.due("OVER", x.says(0), -4);
        CHECK.due("BAD first", x.says(2), -1);
        CHECK.due("OVER", Check.of("l1p n4n9").says(0), -4);
    }

    private static void saysBest() {
        dueSays("b", 2);
        dueSays("b n2", 3);
        dueSays("b n2n3", 1);
        dueSays("b n4n5", 11);
        dueSays("b n2n7", 3);
        dueSays("l1 b n4n6", 3);
        WhoSaysOne x = Check.of("b n4n9n11");
        x.best(0);
        x.at(0, 0);
        int least = x.asked();
        CHECK.due("the least that wins", x.says(0), least);
    }

    private static void play() {
        WhoSaysOne x = Check.of("pp");
        CHECK.due("play(0, 1)", x.play(0, 1), 0);
        CHECK.due("play(12, 1)", x.play(12, 1), 3);
        CHECK.due("said(0)", x.said(0), 2);
        CHECK.due("said(1)", x.said(1), 3);
        CHECK.due("said(2)", x.said(2), 1);
        CHECK.due("OVER", x.play(5, 1), 0);
        x = Check.of("gp n8n12");
        CHECK.due("PLAYER 0 goes on", x.play(1, 9), 1);
        CHECK.due("said(2)", x.said(2), Check.of("g n8n12").says(0));
        CHECK.due("PLAYER 1 goes on", x.play(1, 9), 1);
        CHECK.due("said(3)", x.said(3), 2);
        x = Check.of("gg n60n59n58n57n56n55n54n53n52n51");
        CHECK.due("until 12 are SAID", x.play(12, 7), 2);
        CHECK.due("count(1)", x.count(1), 12);
        CHECK.due("no more", x.play(12, 7), 0);
        CHECK.due("but 1 MAY be SAID", x.say(1), 0);
    }

    private static void playByLots() {
        WhoSaysOne x = Check.of("cp n7n11");
        long lot = 5L * 48271 % 2147483647L;
        int many = x.mark(0, 5);
        int ahead = (int) (lot % many);
        int want = 0;
        for (int n = 2; n <= 60; n++) {
            if (x.may(n) == 1 && ahead-- == 0) {
                want = n;
            }
        }
        CHECK.due("play(1, 5)", x.play(1, 5), 1);
        CHECK.due("said(2)", x.said(2), want);
        x = Check.of("cc");
        lot = 2147483646L * 48271 % 2147483647L;
        int first = (int) (2 + lot % 59);
        CHECK.due("play(2, 2147483646)", x.play(2, 2147483646), 2);
        CHECK.due("said(0)", x.said(0), first);
        x.undo(1);
        lot = lot * 48271 % 2147483647L;
        ahead = (int) (lot % x.mark(0, 5));
        for (int n = 2; n <= 60; n++) {
            if (x.may(n) == 1 && ahead-- == 0) {
                want = n;
            }
        }
        x.undo(0);
        x.play(2, 2147483646);
        CHECK.due("one LOT behind the other", x.said(1), want);
        x = Check.of("cp n2n3");
        CHECK.due("none above 1", x.play(12, 3), 1);
        CHECK.due("said(2)", x.said(2), 1);
    }

    private static void playRefused() {
        WhoSaysOne x = Check.of("pp");
        CHECK.due("play(-1, 1)", x.play(-1, 1), -1);
        CHECK.due("play(13, 1)", x.play(13, 1), -1);
        CHECK.due("play(1, 0)", x.play(1, 0), -1);
        CHECK.due("play(1, -1)", x.play(1, -1), -1);
        CHECK.due("play(1, 2147483647)", x.play(1, 2147483647), -1);
        x = Check.of("p");
        CHECK.due("one PLAYER", x.play(1, 1), -4);
        CHECK.due("one PLAYER, none asked for", x.play(0, 1), -4);
        CHECK.due("BAD first", x.play(1, 0), -1);
    }
}
