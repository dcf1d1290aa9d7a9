/** Sentences of promises 41 to 47: what is told. */
final class TellBounds {
    private static final int MAX = Integer.MAX_VALUE, MIN = Integer.MIN_VALUE;

    private final Sentences s;

    TellBounds(Sentences s) {
        this.s = s;
    }

    void all() {
        s.test(41, "What the latest lay(), at(), mean()", this::askedOfRows);
        s.test(41, "turn()", this::askedOfTurn);
        s.test(41, "had(), greatest(), needed(), wish()", this::askedOfSums);
        s.test(41, "whose(), lasts()", this::askedOfWinning);
        s.test(41, "list(), tree()", this::askedOfLists);
        s.test(41, "What the latest", this::askedOfNoOthers);
        s.test(41, "that was not refused", this::askedStaysWhenRefused);
        s.test(41, "(nor NONE) told", this::askedStaysByNone);
        s.test(41, "0 before", this::askedBefore);
        s.test(42, "The upper number of what was told last", this::upper);
        s.test(42, "0 before", this::upperBefore);
        s.test(43, "Its lower number", this::lower);
        s.test(43, "1 before", this::lowerBefore);
        s.test(44, "0 PLAYERS, 1 numbers SAID, 2 how many of 1 .. 60 MAY be SAID", this::countOfTheGame);
        s.test(44, "3 SMALL ones (LONG, too), 4 PAIRS (CHANCE, too)", this::countOfKinds);
        s.test(44, "5 kept GAMES", this::countOfKeptOnes);
        s.test(44, "6 ROWS, 7 TEXTS that are there", this::countOfRowsAndTexts);
        s.test(44, "BAD", this::countBad);
        s.test(45, "The latest FINDING", this::finding);
        s.test(45, "(0 before any)", this::findingBefore);
        s.test(46, "How often a FINDING (1 .. 5) was answered", this::findings);
        s.test(46, "BAD", this::findingsBad);
        s.test(47, "h = 17; then h = 31 h + v for each v: count() 0 to 7; the LAW; KINDS of PLAYERS; numbers SAID",
                this::digest);
        s.test(47, "of each kept GAME its LAW and numbers SAID", this::digestOfKeptOnes);
        s.test(47, "its LAW", this::digestOfKeptLaws);
        s.test(47, "(-1 once: missing)", this::digestOfMissingKeptOnes);
        s.test(47, "of each ROW its size (-1: missing) and places", this::digestOfRows);
        s.test(47, "of each TEXT likewise", this::digestOfTexts);
        s.test(47, "h = 31 h + v", this::digestWrapsAround);
    }

    // ---- promises 41 to 43

    private void askedOfRows() {
        WhoSaysOne x = new WhoSaysOne();
        Check.fill(x, 0, 4, 8);
        s.dueAsked(x, "lay(0, 0, 6)", x.lay(0, 0, 6), 1, 4);
        s.dueAsked(x, "at(0, 1)", x.at(0, 1), 1, 8);
        s.dueAsked(x, "mean(0)", x.mean(0), 1, 7);
    }

    private void askedOfTurn() {
        WhoSaysOne x = new WhoSaysOne();
        s.dueAsked(x, "turn()", x.turn(), 0, -9);
        x.say(1);
        s.dueAsked(x, "turn()", x.turn(), 1, 0);
    }

    private void askedOfSums() {
        WhoSaysOne x = Check.of("n5n6");
        s.dueAsked(x, "had(17)", x.had(17), 1, 3);
        s.dueAsked(x, "greatest()", x.greatest(), 19, 10);
        s.dueAsked(x, "needed()", x.needed(), 3, 2);
        s.dueAsked(x, "wish(10)", x.wish(10), 2, 5);
    }

    private void askedOfWinning() {
        WhoSaysOne x = Check.of("n4n5");
        s.dueAsked(x, "whose()", x.whose(), 1, 1);
        s.dueAsked(x, "lasts()", x.lasts(), 6, 3);
        s.dueAsked(x, "whose()", x.whose(), 1, 1);
    }

    private void askedOfLists() {
        WhoSaysOne x = new WhoSaysOne();
        Check.fill(x, 0, 1, 4);
        s.dueAsked(x, "list(0)", x.list(0), 0, 4);
        s.dueAsked(x, "tree(9, 11)", x.tree(9, 11), 1, 12);
    }

    /** All calls that tell nothing by asked(), where none of them is refused. */
    private void askedOfNoOthers() {
        WhoSaysOne x = Check.of("cs n5n6");
        Check.fill(x, 0, 77);
        Check.fill(x, 1, 1, 2, 4);
        x.at(0, 0);
        int[] answers = {x.row(2, 3), x.copy(0, 0, 2, 0, 1), x.tear(2), x.text(1, 3), x.put(1, 0, 'p'), x.fault(1),
            x.game(0), x.law(), x.player(0), x.mark(0, 5), x.mark(0, 2), x.mark(1, 1), x.say(7), x.may(9), x.said(1),
            x.undo(2), x.keep(0), x.on(0), x.ways(60), x.byJust(60, 11), x.gaps(3), x.rest(5, 2), x.common(),
            x.from(), x.best(3), x.share(), x.says(0), x.play(1, 1), x.makes(1, 2), x.count(2), x.finding(),
            x.findings(1)};
        for (int i = 0; i < answers.length; i++) {
            s.due("call " + i + " was refused", answers[i] < 0 && answers[i] != -9 ? 1 : 0, 0);
        }
        x.digest();
        x.upper();
        x.lower();
        s.due("asked() is of at()", x.asked(), 77);
    }

    private void askedStaysWhenRefused() {
        WhoSaysOne x = Check.of("l1 n6");
        Check.fill(x, 0, 77);
        Check.fill(x, 1, 1, 1);
        x.row(3, 0);
        x.at(0, 0);
        s.dueAsked(x, "lay(0, 1, 5)", x.lay(0, 1, 5), -3, 77);
        s.dueAsked(x, "lay(6, 1, 5)", x.lay(6, 1, 5), -1, 77);
        s.dueAsked(x, "at(0, 1)", x.at(0, 1), -3, 77);
        s.dueAsked(x, "at(2, 1)", x.at(2, 1), -3, 77);
        s.dueAsked(x, "mean(3)", x.mean(3), -3, 77);
        s.dueAsked(x, "mean(2)", x.mean(2), -3, 77);
        s.dueAsked(x, "had(0)", x.had(0), -1, 77);
        s.dueAsked(x, "had(4001)", x.had(4001), -1, 77);
        s.dueAsked(x, "greatest()", x.greatest(), -3, 77);
        s.dueAsked(x, "wish(5)", x.wish(5), -4, 77);
        s.dueAsked(x, "wish(0)", x.wish(0), -1, 77);
        s.dueAsked(x, "whose()", x.whose(), -4, 77);
        s.dueAsked(x, "lasts()", x.lasts(), -4, 77);
        s.dueAsked(x, "list(1)", x.list(1), -3, 77);
        s.dueAsked(x, "list(2)", x.list(2), -3, 77);
        s.dueAsked(x, "list(6)", x.list(6), -1, 77);
        s.dueAsked(x, "tree(10, 0)", x.tree(10, 0), -1, 77);
        s.dueAsked(x, "tree(0, 18)", x.tree(0, 18), -1, 77);
        Check.write(x, 0, "n2n31");
        x.game(0);
        s.dueAsked(x, "whose()", x.whose(), -6, 77);
        s.dueAsked(x, "lasts()", x.lasts(), -6, 77);
    }

    private void askedStaysByNone() {
        WhoSaysOne x = Check.of("n6n9");
        Check.fill(x, 0, 77);
        x.at(0, 0);
        s.dueAsked(x, "wish(1)", x.wish(1), -9, 77);
        s.dueAsked(x, "what is told may be NONE itself: turn()", x.turn(), 0, -9);
    }

    private void askedBefore() {
        s.due("asked()", new WhoSaysOne().asked(), 0);
        WhoSaysOne x = Check.of("ps n6n9");
        s.due("behind other calls", x.asked(), 0);
        x.lay(0, 0, 1);
        s.due("behind a refused one", x.asked(), 0);
    }

    private void upper() {
        WhoSaysOne x = Check.of("n4n9n11");
        x.ways(36);
        s.due("ways(36)", x.upper(), 3);
        x.share();
        s.due("share()", x.upper(), 1);
        x.byJust(36, 1);
        s.due("byJust(36, 1)", x.upper(), 0);
        x.tree(9, 0);
        s.due("tree(9, 0)", x.upper(), 118);
        x.ways(0);
        x.byJust(0, 0);
        x.tree(10, 0);
        s.due("refused ones tell nothing", x.upper(), 118);
        x.say(1);
        x.share();
        s.due("refused ones tell nothing", x.upper(), 118);
        x.mean(0);
        x.had(5);
        x.whose();
        x.greatest();
        s.due("others tell nothing", x.upper(), 118);
    }

    private void upperBefore() {
        s.due("upper()", new WhoSaysOne().upper(), 0);
        WhoSaysOne x = Check.of("l1n6");
        x.ways(6);
        x.byJust(6, 1);
        x.share();
        x.tree(0, 18);
        s.due("behind refused ones", x.upper(), 0);
    }

    private void lower() {
        WhoSaysOne x = Check.of("n4n9n11");
        x.share();
        s.due("share()", x.lower(), 4);
        x.ways(0);
        x.byJust(0, 0);
        x.tree(10, 0);
        s.due("refused ones tell nothing", x.lower(), 4);
        x.ways(36);
        s.due("ways(36)", x.lower(), 1);
        x.share();
        x.tree(9, 0);
        s.due("tree(9, 0)", x.lower(), 1);
    }

    private void lowerBefore() {
        s.due("lower()", new WhoSaysOne().lower(), 1);
        WhoSaysOne x = Check.of("l1n6");
        x.ways(6);
        x.share();
        s.due("behind refused ones", x.lower(), 1);
    }

    // ---- promises 44 to 46

    private void dueCounts(WhoSaysOne x, int... want) {
        for (int what = 0; what < want.length; what++) {
            s.due("count(" + what + ")", x.count(what), want[what]);
        }
    }

    private void countOfTheGame() {
        dueCounts(new WhoSaysOne(), 0, 0, 60);
        dueCounts(Check.of("p n5n6"), 1, 2, 10);
        WhoSaysOne x = Check.of("pg n60n59n58n57n56n55n54n53n52n51n50n49");
        dueCounts(x, 2, 12, 48);
        x.say(1);
        dueCounts(x, 2, 13, 0);
        x = Check.of("l2pg n60");
        x.say(1);
        dueCounts(x, 2, 2, 56);
    }

    private void countOfKinds() {
        String letters = "psabgc";
        for (int first = 0; first < 6; first++) {
            for (int second = 0; second < 6; second++) {
                WhoSaysOne x = Check.of("" + letters.charAt(first) + letters.charAt(second));
                int small = (first == 1 || first == 4 ? 1 : 0) + (second == 1 || second == 4 ? 1 : 0);
                int pairs = (first == 2 || first == 5 ? 1 : 0) + (second == 2 || second == 5 ? 1 : 0);
                s.due("count(3)", x.count(3), small);
                s.due("count(4)", x.count(4), pairs);
            }
        }
    }

    private void countOfKeptOnes() {
        WhoSaysOne x = new WhoSaysOne();
        s.due("count(5)", x.count(5), 0);
        for (int k = 2; k >= 0; k--) {
            x.keep(k);
            x.keep(k);
            s.due("count(5)", x.count(5), 3 - k);
        }
        x.on(1);
        s.due("count(5)", x.count(5), 3);
        x.text(0, 0);
        x.game(0);
        s.due("count(5)", x.count(5), 0);
    }

    private void countOfRowsAndTexts() {
        WhoSaysOne x = new WhoSaysOne();
        for (int r = 0; r < 6; r++) {
            s.due("count(6)", x.count(6), r);
            x.row(r, 0);
        }
        s.due("count(6)", x.count(6), 6);
        x.tear(3);
        s.due("count(6)", x.count(6), 5);
        for (int t = 3; t >= 0; t--) {
            s.due("count(7)", x.count(7), 3 - t);
            x.text(t, 0);
        }
        s.due("count(7)", x.count(7), 4);
    }

    private void countBad() {
        WhoSaysOne x = new WhoSaysOne();
        for (int what : new int[] {-1, 8, MIN, MAX}) {
            s.due("count(" + what + ")", x.count(what), -1);
        }
        s.due("finding()", x.finding(), 0);
    }

    private void finding() {
        WhoSaysOne x = Check.of("p");
        s.dueFinding(x, "NOTHING", x.tear(0), 1);
        s.dueFinding(x, "BEYOND", x.said(0), 2);
        s.dueFinding(x, "UNLIKE", x.mark(0, 1), 3);
        s.dueFinding(x, "NOUGHT", x.greatest(), 4);
        s.dueFinding(x, "SIZE", x.row(0, -1), 5);
        x.say(0);
        x.whose();
        x.law();
        s.due("it stays", x.finding(), 5);
        s.dueFinding(x, "NOTHING again", x.on(0), 1);
    }

    private void findingBefore() {
        WhoSaysOne x = new WhoSaysOne();
        s.due("finding()", x.finding(), 0);
        x.say(0);
        x.whose();
        x.play(1, 1);
        x.from();
        s.due("BAD, SPENT, STATE, NONE are none", x.finding(), 0);
    }

    private void findings() {
        WhoSaysOne x = Check.of("p");
        int[] want = new int[6];
        for (int round = 0; round < 3; round++) {
            x.tear(0);
            want[1]++;
            for (int f = 1; f <= 5; f++) {
                s.due("findings(" + f + ")", x.findings(f), want[f]);
            }
            x.said(0);
            want[2]++;
            x.mark(0, 1);
            x.mark(0, 2);
            want[3] += 2;
            x.greatest();
            want[4]++;
            x.row(0, -1);
            want[5]++;
            x.say(0);
            x.whose();
        }
        for (int f = 1; f <= 5; f++) {
            s.due("findings(" + f + ")", x.findings(f), want[f]);
        }
    }

    private void findingsBad() {
        WhoSaysOne x = new WhoSaysOne();
        for (int f : new int[] {0, 6, -1, MIN, MAX}) {
            s.due("findings(" + f + ")", x.findings(f), -1);
        }
        for (int f = 1; f <= 5; f++) {
            s.due("findings(" + f + ")", x.findings(f), 0);
        }
        s.due("finding()", x.finding(), 0);
    }

    // ---- promise 47

    private static long digestOf(long... values) {
        long h = 17;
        for (long v : values) {
            h = 31 * h + v;
        }
        return h;
    }

    private void digest() {
        WhoSaysOne x = Check.of("l1sc n12");
        x.say(8);
        s.due("digest()", x.digest(), digestOf(2, 2, 45, 1, 1, 0, 0, 1, 1, 1, 5, 12, 8, -1, -1, -1,
                -1, -1, -1, -1, -1, -1, 8, 'l', '1', 's', 'c', 32, 'n', '1', '2', -1, -1, -1));
        s.due("of a new one", new WhoSaysOne().digest(),
                digestOf(0, 0, 60, 0, 0, 0, 0, 0, 0, -1, -1, -1, -1, -1, -1, -1, -1, -1, -1, -1, -1, -1));
    }

    private void digestOfKeptOnes() {
        WhoSaysOne x = new WhoSaysOne();
        x.say(60);
        x.keep(0);
        x.say(50);
        x.keep(2);
        x.undo(0);
        x.keep(1);
        s.due("digest()", x.digest(), digestOf(0, 0, 60, 0, 0, 3, 0, 0, 0, 0, 60, 0, 0, 60, 50,
                -1, -1, -1, -1, -1, -1, -1, -1, -1, -1));
    }

    private void digestOfKeptLaws() {
        WhoSaysOne x = Check.of("l2n9");
        x.keep(0);
        x.undo(0);
        x.keep(2);
        x.text(0, 0);
        s.due("digest()", x.digest(), digestOf(0, 0, 60, 0, 0, 2, 0, 1, 2, 2, 9, -1, 2,
                -1, -1, -1, -1, -1, -1, 0, -1, -1, -1));
    }

    private void digestOfMissingKeptOnes() {
        WhoSaysOne x = new WhoSaysOne();
        x.keep(1);
        s.due("digest()", x.digest(), digestOf(0, 0, 60, 0, 0, 1, 0, 0, 0, -1, 0, -1,
                -1, -1, -1, -1, -1, -1, -1, -1, -1, -1));
    }

    private void digestOfRows() {
        WhoSaysOne x = new WhoSaysOne();
        Check.fill(x, 0, 7, MIN);
        x.row(4, 0);
        Check.fill(x, 5, MAX);
        Check.fill(x, 2, 1, 2, 3);
        x.tear(2);
        s.due("digest()", x.digest(), digestOf(0, 0, 60, 0, 0, 0, 3, 0, 0, -1, -1, -1,
                2, 7, MIN, -1, -1, -1, 0, 1, MAX, -1, -1, -1, -1));
    }

    private void digestOfTexts() {
        WhoSaysOne x = new WhoSaysOne();
        x.text(0, 0);
        x.text(3, 2);
        x.put(3, 1, 200);
        s.due("digest()", x.digest(), digestOf(0, 0, 60, 0, 0, 0, 0, 2, 0, -1, -1, -1,
                -1, -1, -1, -1, -1, -1, 0, -1, -1, 2, 32, -56));
    }

    private void digestWrapsAround() {
        WhoSaysOne x = new WhoSaysOne();
        java.math.BigInteger h = java.math.BigInteger.valueOf(17);
        long[] ahead = {0, 0, 60, 0, 0, 0, 1, 0, 0, -1, -1, -1, 60};
        x.row(0, 60);
        long[] values = new long[ahead.length + 60 + 9];
        System.arraycopy(ahead, 0, values, 0, ahead.length);
        for (int i = 0; i < 60; i++) {
            x.lay(0, i, i % 2 == 0 ? MAX : MIN);
            values[ahead.length + i] = i % 2 == 0 ? MAX : MIN;
        }
        java.util.Arrays.fill(values, ahead.length + 60, values.length, -1);
        for (long v : values) {
            h = h.multiply(java.math.BigInteger.valueOf(31)).add(java.math.BigInteger.valueOf(v));
        }
        s.due("digest()", x.digest(), h.longValue());
    }
}
