/** Sentences of promises 32 to 37: whose it is, what PLAYERS SAY, games of both. */
final class WinBounds {
    private static final int MAX = Integer.MAX_VALUE, MIN = Integer.MIN_VALUE;
    private static final int[] NO_ROW = {-1, 6, MIN, MAX};
    /** By LAW 0 with GAPS that have no end. */
    private static final String[] ENDLESS = {"", "n60", "n4n6", "n2", "n6n10n14"};
    /** By LAW 0 with 15 GAPS (the greatest 17, 23, 26, 27, 29, 29), with 16, with 1711. */
    private static final String[] TOO_MANY = {"n6n19n20n21n22n23", "n9n12n13n16n19", "n7n9n15", "n8n12n13n17n18n23",
        "n2n31", "n6n7", "n3n17", "n60n59"};

    private final Sentences s;

    WinBounds(Sentences s) {
        this.s = s;
    }

    void all() {
        s.test(32, "Whether who is to speak WINS: 1, 0", this::whose);
        s.test(32, "by how many numbers by asked()", this::whoseHowMany);
        s.test(32, "STATE: another LAW", this::whoseByAnotherLaw);
        s.test(32, "or it is OVER", this::whoseWhenOver);
        s.test(32, "SPENT: GAPS without end", this::whoseWithoutEnd);
        s.test(32, "or more than 14", this::whoseOfTooMany);
        s.test(33, "Numbers by which who is to speak WINS, rising", this::bestRising);
        s.test(33, "come to a ROW (anew): how many.", this::bestAnew);
        s.test(33, "BAD", this::bestBad);
        s.test(33, "STATE", this::bestState);
        s.test(33, "SPENT", this::bestSpent);
        s.test(34, "In how many numbers more (1 is the last one) it is OVER at most", this::lastsAtMost);
        s.test(34, "how many at least, if nobody says 1 while another number MAY be SAID, by asked()",
                this::lastsAtLeast);
        s.test(34, "(1 is the last one)", this::lastsOne);
        s.test(34, "STATE", this::lastsState);
        s.test(34, "SPENT", this::lastsSpent);
        s.test(35, "By how many of the GAPS who is to speak WINS, of all GAPS, told by upper(), lower(): how many.",
                this::share);
        s.test(35, "By how many of the GAPS", this::shareOfNone);
        s.test(35, "STATE", this::shareState);
        s.test(35, "SPENT", this::shareSpent);
        saysAndPlays();
    }

    private void saysAndPlays() {
        s.test(36, "What a PLAYER SAYS now", this::says);
        s.test(36, "(whoever is to speak", this::saysWhoeverIsToSpeak);
        s.test(36, "no LOTS)", this::saysWithoutLots);
        s.test(36, "BAD", this::saysBad);
        s.test(36, "STATE: it is OVER", this::saysWhenOver);
        s.test(37, "n (0 .. 12) numbers are SAID by both PLAYERS by turns", this::play);
        s.test(37, "n (0 .. 12)", this::playAtTheEnds);
        s.test(37, "(as turn() tells)", this::playAsTurnTells);
        s.test(37, "until it is OVER", this::playUntilOver);
        s.test(37, "or 12 are SAID", this::playUntilTwelve);
        s.test(37, "CHANCE by LOTS of a seed", this::playByLots);
        s.test(37, "(one for each number that it SAYS)", this::playOneLotForEach);
        s.test(37, "how many were SAID", this::playTellsHowMany);
        s.test(37, "BAD", this::playBad);
        s.test(37, "STATE: fewer than two PLAYERS", this::playWithoutTwo);
    }

    private static WhoSaysOne withOne(String game) {
        WhoSaysOne x = Check.of(game);
        x.say(1);
        return x;
    }

    // ---- promise 32

    private void dueWhose(String game, int want, int many) {
        WhoSaysOne x = Check.of(game);
        s.dueAsked(x, "whose() of " + game, x.whose(), want, many);
    }

    private void whose() {
        dueWhose("n2n3", 0, 0);
        dueWhose("n2n5", 1, 1);
        dueWhose("n4n5", 1, 1);
        dueWhose("n4n5n11", 0, 0);
        dueWhose("n4n6n5", 1, 1);
        dueWhose("n3n4n5", 1, 1);
    }

    private void whoseHowMany() {
        dueWhose("n4n9n11", 1, 2);
        dueWhose("n6n7n8", 1, 3);
        dueWhose("n2n3", 0, 0);
    }

    private void whoseByAnotherLaw() {
        for (String game : new String[] {"l1", "l1n4n6", "l1n4n5", "l2", "l2n2n3", "l2n4n5"}) {
            dueWhose(game, -4, 0);
        }
    }

    private void whoseWhenOver() {
        for (String game : new String[] {"", "n5", "n2n3", "n60n59"}) {
            WhoSaysOne x = withOne(game);
            s.dueAsked(x, "whose() of " + game + " and 1", x.whose(), -4, 0);
        }
    }

    private void whoseWithoutEnd() {
        for (String game : ENDLESS) {
            dueWhose(game, -6, 0);
        }
    }

    private void whoseOfTooMany() {
        for (String game : TOO_MANY) {
            dueWhose(game, -6, 0);
        }
        s.due("15 GAPS, the greatest below 28", Check.of(TOO_MANY[0]).gaps(0), 15);
        dueWhose("n2n29", 1, 1);
        dueWhose("n3n16n29", 1, 1);
        WhoSaysOne x = Check.of("n2n31");
        s.due("15 GAPS", x.gaps(0), 15);
        s.due("15 GAPS", Check.of("n6n7").gaps(0), 15);
        s.due("14 GAPS", Check.of("n2n29").gaps(0), 14);
        s.due("14 GAPS", Check.of("n3n16n29").gaps(0), 14);
    }

    // ---- promise 33

    private void bestRising() {
        WhoSaysOne x = Check.of("n6n7n8");
        s.due("best(1)", x.best(1), 3);
        int last = 1;
        for (int i = 0; i < 3; i++) {
            s.due("at(1, " + i + ")", x.at(1, i), 1);
            int n = x.asked();
            s.due(n + " is above the one ahead", n > last ? 1 : 0, 1);
            x.say(n);
            s.due("the other one does not win behind " + n, x.whose(), 0);
            x.undo(3);
            last = n;
        }
        s.dueFinding(x, "at(1, 3)", x.at(1, 3), 2);
        x = Check.of("n3n4n5");
        s.due("2 leaves 1 alone: best(1)", x.best(1), 1);
        s.dueRow(x, 1, 2);
        x = Check.of("n2n29");
        s.due("3 leaves 1 alone: best(1)", x.best(1), 1);
        s.dueRow(x, 1, 3);
    }

    private void bestAnew() {
        WhoSaysOne x = Check.of("n4n5");
        Check.fill(x, 0, 9, 9, 9);
        s.due("over a longer one: best(0)", x.best(0), 1);
        s.dueRow(x, 0, 11);
        s.due("to one that is missing: best(5)", x.best(5), 1);
        s.dueRow(x, 5, 11);
        x = Check.of("n2n3");
        Check.fill(x, 0, 9, 9, 9);
        s.due("none: best(0)", x.best(0), 0);
        s.dueRow(x, 0);
    }

    private void bestBad() {
        for (int r : NO_ROW) {
            s.due("best(" + r + ")", Check.of("n4n5").best(r), -1);
            s.due("BAD ahead of STATE: best(" + r + ")", withOne("").best(r), -1);
            s.due("BAD ahead of SPENT: best(" + r + ")", Check.of("").best(r), -1);
        }
    }

    private void dueBestRefused(WhoSaysOne x, int want) {
        Check.fill(x, 2, 9, 8);
        s.due("best(2)", x.best(2), want);
        s.dueRow(x, 2, 9, 8);
        s.due("best(3)", x.best(3), want);
        s.due("count(6)", x.count(6), 1);
    }

    private void bestState() {
        for (String game : new String[] {"l1", "l1n4n5", "l2n4n5"}) {
            dueBestRefused(Check.of(game), -4);
        }
        dueBestRefused(withOne("n4n5"), -4);
        dueBestRefused(withOne(""), -4);
    }

    private void bestSpent() {
        for (String game : ENDLESS) {
            dueBestRefused(Check.of(game), -6);
        }
        for (String game : TOO_MANY) {
            dueBestRefused(Check.of(game), -6);
        }
    }

    // ---- promise 34

    private void dueLasts(String game, int most, int least) {
        WhoSaysOne x = Check.of(game);
        s.dueAsked(x, "lasts() of " + game, x.lasts(), most, least);
    }

    private void lastsAtMost() {
        dueLasts("n2n5", 2, 2);
        dueLasts("n4n5", 6, 3);
        dueLasts("n2n29", 14, 2);
    }

    private void lastsAtLeast() {
        dueLasts("n2n7", 3, 2);
        dueLasts("n3n4", 3, 2);
        dueLasts("n4n6n7", 5, 3);
        dueLasts("n5n6", 10, 3);
    }

    private void lastsOne() {
        dueLasts("n2n3", 1, 1);
        WhoSaysOne x = Check.of("n2n3");
        x.say(1);
        s.dueAsked(x, "turn()", x.turn(), 1, 0);
    }

    private void lastsState() {
        dueLasts("l1", -4, 0);
        dueLasts("l1n4n5", -4, 0);
        dueLasts("l2n4n5", -4, 0);
        WhoSaysOne x = withOne("n4n5");
        s.dueAsked(x, "OVER: lasts()", x.lasts(), -4, 0);
    }

    private void lastsSpent() {
        for (String game : ENDLESS) {
            dueLasts(game, -6, 0);
        }
        for (String game : TOO_MANY) {
            dueLasts(game, -6, 0);
        }
    }

    // ---- promise 35

    private void dueShare(String game, int want, long upper, long lower) {
        WhoSaysOne x = Check.of(game);
        s.dueFraction(x, "share() of " + game, x.share(), want, upper, lower);
    }

    private void share() {
        dueShare("n4n9n11", 2, 1, 4);
        dueShare("n4n5", 1, 1, 6);
        dueShare("n6n7n8", 3, 1, 3);
        dueShare("n2n29", 1, 1, 14);
    }

    private void shareOfNone() {
        dueShare("n2n3", 0, 0, 1);
        dueShare("n4n5n11", 0, 0, 1);
    }

    private void dueShareRefused(WhoSaysOne x, int want) {
        s.dueFraction(x, "share()", x.share(), want, 0, 1);
    }

    private void shareState() {
        dueShareRefused(Check.of("l1"), -4);
        dueShareRefused(Check.of("l1n4n5"), -4);
        dueShareRefused(Check.of("l2n4n5"), -4);
        dueShareRefused(withOne("n4n5"), -4);
    }

    private void shareSpent() {
        for (String game : ENDLESS) {
            dueShareRefused(Check.of(game), -6);
        }
        for (String game : TOO_MANY) {
            dueShareRefused(Check.of(game), -6);
        }
    }

    // ---- promise 36

    private void says() {
        WhoSaysOne x = Check.of("pa n50");
        s.due("says(0)", x.says(0), 2);
        s.due("says(1)", x.says(1), 10);
        s.due("nothing is SAID by it", x.count(1), 1);
        x.say(2);
        s.due("says(0)", x.says(0), 3);
        s.due("says(1)", x.says(1), 57);
        x = Check.of("gb n2n3");
        s.due("1 alone MAY be: says(0)", x.says(0), 1);
        s.due("1 alone MAY be: says(1)", x.says(1), 1);
    }

    private void saysWhoeverIsToSpeak() {
        WhoSaysOne x = Check.of("ga");
        s.due("turn()", x.turn(), 0);
        s.due("says(0)", x.says(0), 31);
        s.due("says(1)", x.says(1), 60);
        x.say(50);
        s.due("turn()", x.turn(), 1);
        s.due("says(0)", x.says(0), 25);
        s.due("says(1)", x.says(1), 10);
    }

    private void saysWithoutLots() {
        WhoSaysOne x = Check.of("ca n50");
        s.due("a CHANCE", x.says(0), 10);
        s.due("a PAIR", x.says(1), 10);
        x.play(1, 77);
        s.due("a CHANCE as a PAIR", x.says(0), x.says(1));
        s.due("again", x.says(0), x.says(1));
    }

    private void saysBad() {
        s.due("without PLAYERS: says(0)", new WhoSaysOne().says(0), -1);
        s.due("with one alone: says(1)", Check.of("p").says(1), -1);
        WhoSaysOne x = Check.of("pp");
        for (int p : new int[] {-1, 2, MIN, MAX}) {
            s.due("says(" + p + ")", x.says(p), -1);
        }
        x.say(1);
        s.due("BAD ahead of STATE: says(2)", x.says(2), -1);
        s.due("finding()", x.finding(), 0);
    }

    private void saysWhenOver() {
        for (char letter : "psabgc".toCharArray()) {
            s.due("1 was SAID: " + letter, withOne("" + letter).says(0), -4);
            s.due("1 was SAID, others MAY be: " + letter, withOne("l2" + letter).says(0), -4);
            s.due("none MAY be: " + letter, Check.of("l1n4n9" + letter).says(0), -4);
        }
    }

    // ---- promise 37

    private void dueSaid(WhoSaysOne x, int... want) {
        s.due("count(1)", x.count(1), want.length);
        for (int i = 0; i < want.length; i++) {
            s.due("said(" + i + ")", x.said(i), want[i]);
        }
    }

    private void play() {
        WhoSaysOne x = Check.of("gp");
        s.due("play(3, 1)", x.play(3, 1), 3);
        dueSaid(x, 31, 2, 29);
        x = Check.of("pg");
        s.due("play(3, 1)", x.play(3, 1), 3);
        dueSaid(x, 2, 59, 3);
    }

    private void playAtTheEnds() {
        WhoSaysOne x = Check.of("gg");
        s.due("play(0, 1)", x.play(0, 1), 0);
        s.due("count(1)", x.count(1), 0);
        s.due("play(1, 1)", x.play(1, 1), 1);
        s.due("count(1)", x.count(1), 1);
        x.undo(0);
        s.due("play(12, 1)", x.play(12, 1), 12);
        s.due("count(1)", x.count(1), 12);
        s.due("play(0, 2147483646)", x.play(0, 2147483646), 0);
    }

    private void playAsTurnTells() {
        WhoSaysOne x = Check.of("ga n50");
        s.due("PLAYER 1 goes on: play(1, 1)", x.play(1, 1), 1);
        dueSaid(x, 50, 10);
        s.due("PLAYER 0 goes on: play(1, 1)", x.play(1, 1), 1);
        dueSaid(x, 50, 10, 51);
    }

    private void playUntilOver() {
        WhoSaysOne x = Check.of("pp");
        s.due("play(12, 1)", x.play(12, 1), 3);
        dueSaid(x, 2, 3, 1);
        s.due("OVER: play(12, 1)", x.play(12, 1), 0);
        x = withOne("l2pp");
        s.due("OVER, though others MAY be: play(1, 1)", x.play(1, 1), 0);
        x = Check.of("l1pp n4n9");
        s.due("OVER, as none MAY be: play(12, 1)", x.play(12, 1), 0);
    }

    private void playUntilTwelve() {
        WhoSaysOne x = Check.of("gg n60n59n58n57n56n55n54n53n52n51");
        s.due("play(12, 7)", x.play(12, 7), 2);
        s.due("count(1)", x.count(1), 12);
        s.due("play(1, 7)", x.play(1, 7), 0);
        s.dueAsked(x, "it is not OVER", x.turn(), 0, -9);
        x = Check.of("pg n60n59n58n57n56n55n54n53n52n51n50");
        s.due("one more alone: play(2, 7)", x.play(2, 7), 1);
        s.due("count(1)", x.count(1), 12);
        x.say(1);
        s.due("thirteen were SAID: play(12, 7)", x.play(12, 7), 0);
    }

    private void playByLots() {
        WhoSaysOne x = Check.of("cp n7n11");
        int ahead = (int) (5L * 48271 % 2147483647L) % x.mark(0, 5);
        int want = 0;
        for (int n = 2; n <= 60; n++) {
            if (x.may(n) == 1 && ahead-- == 0) {
                want = n;
            }
        }
        s.due("play(1, 5)", x.play(1, 5), 1);
        dueSaid(x, 7, 11, want);
        x = Check.of("cc");
        s.due("9 modulo 59: play(1, 1)", x.play(1, 1), 1);
        dueSaid(x, 11);
        x = Check.of("cc n2n3");
        s.due("1 alone MAY be: play(2, 9)", x.play(2, 9), 1);
        dueSaid(x, 2, 3, 1);
    }

    private void playOneLotForEach() {
        WhoSaysOne x = Check.of("cc");
        s.due("both by the same LOTS: play(2, 1)", x.play(2, 1), 2);
        dueSaid(x, 11, 48);
        x = Check.of("cp");
        s.due("PLAYER takes none between: play(3, 13)", x.play(3, 13), 3);
        dueSaid(x, 60, 2, 31);
        x = Check.of("pc");
        s.due("PLAYER takes none ahead: play(2, 13)", x.play(2, 13), 2);
        dueSaid(x, 2, 45);
        x = Check.of("cp");
        x.play(1, 13);
        x.play(1, 13);
        s.due("a new seed: play(1, 5)", x.play(1, 5), 1);
        s.due("3 .. 59 odd, by the first of the LOTS", x.said(2), 3 + 2 * (5 * 48271 % 29));
    }

    private void playTellsHowMany() {
        WhoSaysOne x = Check.of("bb n4n5");
        s.due("play(12, 1)", x.play(12, 1), x.count(1) - 2);
        s.due("the last one", x.said(x.count(1) - 1), 1);
        x = Check.of("bb n4n5");
        s.due("play(2, 1)", x.play(2, 1), 2);
    }

    private void playBad() {
        WhoSaysOne x = Check.of("cc");
        for (int n : new int[] {-1, 13, MIN, MAX}) {
            s.due("play(" + n + ", 1)", x.play(n, 1), -1);
        }
        for (int seed : new int[] {0, -1, MIN, MAX}) {
            s.due("play(1, " + seed + ")", x.play(1, seed), -1);
            s.due("play(0, " + seed + ")", x.play(0, seed), -1);
        }
        s.due("count(1)", x.count(1), 0);
        s.due("BAD ahead of STATE: play(13, 1)", new WhoSaysOne().play(13, 1), -1);
        s.due("BAD ahead of STATE: play(1, 0)", new WhoSaysOne().play(1, 0), -1);
        s.due("finding()", x.finding(), 0);
    }

    private void playWithoutTwo() {
        s.due("none: play(1, 1)", new WhoSaysOne().play(1, 1), -4);
        s.due("none: play(0, 1)", new WhoSaysOne().play(0, 1), -4);
        WhoSaysOne x = Check.of("b n4n6");
        s.due("one: play(1, 1)", x.play(1, 1), -4);
        s.due("one: play(0, 1)", x.play(0, 1), -4);
        s.due("count(1)", x.count(1), 2);
        s.due("finding()", x.finding(), 0);
    }
}
