/** Promises 10 to 14: FAULTS, GAMES, the LAW, PLAYERS and what they tell. */
public final class GamesTest {
    private static final Check CHECK = new Check("GamesTest");

    public static void main(String[] args) {
        faults();
        faultRefused();
        games();
        gameKeepsWhenRefused();
        lawAndPlayer();
        mark();
        markWhenOver();
        CHECK.end();
    }

    private static void dueFault(String what, int want) {
        WhoSaysOne x = new WhoSaysOne();
        Check.write(x, 1, what);
        CHECK.due("fault of '" + what + "'", x.fault(1), want);
        CHECK.due("game of '" + what + "' is refused", x.game(1) < 0 ? 1 : 0, want == -9 ? 0 : 1);
    }

    private static void faults() {
        String twelve = "n60n59n58n57n56n55n54n53n52n51n50n49";
        dueFault("", -9);
        dueFault("     ", -9);
        dueFault("  l1 p s n4 ", -9);
        dueFault("l0", -9);
        dueFault("l2", -9);
        dueFault("l", 1);
        dueFault("l3", 1);
        dueFault("l 0", 1);
        dueFault("l00", 2);
        dueFault("l0l0", 2);
        dueFault("pl0", 1);
        dueFault("n5l0", 2);
        dueFault("psg", 2);
        dueFault("p p a", 4);
        dueFault("x", 0);
        dueFault("P", 0);
        dueFault(" 5", 1);
        dueFault("n", 1);
        dueFault("n 5", 1);
        dueFault("nn", 1);
        dueFault("n1", 2);
        dueFault("n1 ", 2);
        dueFault("n0", 2);
        dueFault("n05", -9);
        dueFault("n01", 3);
        dueFault("n60", -9);
        dueFault("n61", 3);
        dueFault("n99", 3);
        dueFault("n123", 3);
        dueFault("n:", 1);
        dueFault("n/", 1);
        dueFault("n1:", 2);
        dueFault("n3:", 2);
        dueFault("l:", 1);
        dueFault("n5n10", 5);
        dueFault("n5n5", 4);
        dueFault("n10n5n15", 8);
        dueFault("l1n6n4n9", -9);
        dueFault("l1n6n4n8", 8);
        dueFault("l1n6n5n4", 8);
        dueFault("l2n5n20", -9);
        dueFault("l2n5n15", 7);
        dueFault(twelve, -9);
        dueFault(twelve + "n48", 36);
        dueFault(twelve + "n", 36);
        dueFault(twelve + " cb ", -9);
        dueFault("" + (char) 0xEC, 0);
    }

    private static void faultRefused() {
        WhoSaysOne x = new WhoSaysOne();
        CHECK.due("fault(0)", x.fault(0), -3);
        CHECK.due("NOTHING", x.finding(), 1);
        CHECK.due("fault(-1)", x.fault(-1), -1);
        CHECK.due("fault(4)", x.fault(4), -1);
    }

    private static void games() {
        WhoSaysOne x = new WhoSaysOne();
        Check.write(x, 3, "l2gc n3n7 n8");
        CHECK.due("game(3)", x.game(3), 3);
        CHECK.due("law()", x.law(), 2);
        CHECK.due("player(0)", x.player(0), 4);
        CHECK.due("player(1)", x.player(1), 5);
        CHECK.due("said(1)", x.said(1), 7);
        x.keep(1);
        Check.write(x, 3, " n2");
        CHECK.due("game(3) anew", x.game(3), 1);
        CHECK.due("law()", x.law(), 0);
        CHECK.due("no PLAYERS", x.count(0), 0);
        CHECK.due("said(0)", x.said(0), 2);
        CHECK.due("said(1)", x.said(1), -3);
        CHECK.due("kept GAMES go", x.on(1), -3);
        CHECK.due("count(5)", x.count(5), 0);
    }

    private static void gameKeepsWhenRefused() {
        WhoSaysOne x = Check.of("l1sb n12");
        x.keep(0);
        long before = x.digest();
        CHECK.due("game(1)", x.game(1), -3);
        CHECK.due("game(-1)", x.game(-1), -1);
        CHECK.due("game(4)", x.game(4), -1);
        CHECK.due("digest stays", x.digest(), before);
        Check.write(x, 0, "n4n8");
        before = x.digest();
        CHECK.due("a FAULT", x.game(0), -4);
        CHECK.due("digest stays", x.digest(), before);
        CHECK.due("kept still", x.on(0), 1);
    }

    private static void lawAndPlayer() {
        String letters = "psabgc";
        for (int kind = 0; kind < 6; kind++) {
            WhoSaysOne x = Check.of("l1" + letters.charAt(kind));
            CHECK.due("law()", x.law(), 1);
            CHECK.due("player(0)", x.player(0), kind);
            CHECK.due("player(1)", x.player(1), -1);
            CHECK.due("player(-1)", x.player(-1), -1);
            CHECK.due("count(3)", x.count(3), kind == 1 || kind == 4 ? 1 : 0);
            CHECK.due("count(4)", x.count(4), kind == 2 || kind == 5 ? 1 : 0);
            for (int asked = 1; asked <= 5; asked++) {
                boolean is = asked == kind || asked == 1 && kind == 4 || asked == 2 && kind == 5;
                CHECK.due(letters.charAt(kind) + " is " + asked, x.mark(0, asked) == -3 ? 0 : 1, is ? 1 : 0);
            }
        }
    }

    private static void mark() {
        WhoSaysOne x = Check.of("cgn9n5");
        CHECK.due("a PAIR: 31 less 5", x.mark(0, 2), 26);
        CHECK.due("a CHANCE: 1 .. 60 above 1", x.mark(0, 5), x.count(2) - 1);
        CHECK.due("a LONG: all that MAY", x.mark(1, 4), x.count(2));
        CHECK.due("a LONG as a SMALL: but the greatest", x.mark(1, 1), x.count(2) - 1);
        CHECK.due("UNLIKE", x.mark(0, 1), -3);
        CHECK.due("UNLIKE", x.finding(), 3);
        CHECK.due("KIND 0", x.mark(0, 0), -1);
        CHECK.due("KIND 6", x.mark(0, 6), -1);
        CHECK.due("no PLAYER 2", x.mark(2, 1), -1);
        CHECK.due("no PLAYER -1", x.mark(-1, 1), -1);
        x = Check.of("as n2n31");
        CHECK.due("below 0", x.mark(0, 2), 29 - 31);
        CHECK.due("a SMALL: by 3 but 1 goes", x.mark(1, 1), 1);
        x = Check.of("ab");
        CHECK.due("nothing SAID", x.mark(0, 2), 60);
        CHECK.due("not SOLVED", x.mark(1, 3), -9);
        x = Check.of("bb n2n3");
        CHECK.due("by none", x.mark(0, 3), 0);
        x = Check.of("bb n4n5");
        CHECK.due("by 11 alone", x.mark(0, 3), 1);
        x = Check.of("l1bb n4n6");
        CHECK.due("another LAW", x.mark(0, 3), -9);
    }

    private static void markWhenOver() {
        WhoSaysOne x = Check.of("sc n2");
        x.say(1);
        CHECK.due("a SMALL", x.mark(0, 1), -4);
        CHECK.due("UNLIKE ahead", x.mark(1, 1), -3);
        CHECK.due("a PAIR: none MAY be", x.mark(1, 2), -9);
        CHECK.due("a CHANCE: none", x.mark(1, 5), 0);
        x = Check.of("gb n2");
        x.say(1);
        CHECK.due("a LONG as a SMALL", x.mark(0, 1), -4);
        CHECK.due("a LONG: none MAY be", x.mark(0, 4), 0);
        CHECK.due("a BEST: by none", x.mark(1, 3), 0);
        x = Check.of("l1sg n6n5");
        CHECK.due("a SMALL, OVER by LAW 1", x.mark(0, 1), -4);
        CHECK.due("a LONG as a SMALL, OVER by LAW 1", x.mark(1, 1), -4);
        CHECK.due("a LONG, OVER by LAW 1", x.mark(1, 4), 0);
        CHECK.due("UNLIKE, OVER by LAW 1", x.mark(0, 4), -3);
        x = Check.of("l2pg n5");
        x.say(1);
        CHECK.due("a LONG: others MAY be", x.mark(1, 4), x.count(2));
        CHECK.due("others MAY be, when it is OVER, too", x.count(2) > 0 ? 1 : 0, 1);
        CHECK.due("a LONG as a SMALL by LAW 2", x.mark(1, 1), -4);
        x = Check.of("l2ac n5");
        x.say(1);
        CHECK.due("others MAY be", x.mark(0, 2), 59);
        CHECK.due("others MAY be", x.mark(1, 5), x.count(2));
    }
}
