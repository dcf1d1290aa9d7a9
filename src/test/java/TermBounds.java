/** Sentences of the document's terms: answers, TEXTS of GAMES, LAWS, who WINS, what PLAYERS SAY, LOTS. */
final class TermBounds {
    private static final int TERMS = Sentences.TERMS;
    private static final String TWELVE = "n60n59n58n57n56n55n54n53n52n51n50n49";

    private final Sentences s;

    TermBounds(Sentences s) {
        this.s = s;
    }

    void all() {
        answers();
        texts();
        faults();
        laws();
        solved();
        sayings();
        s.test(Sentences.USE, "An object is used for at most 512 calls after it has been made", this::manyCalls);
    }

    private void answers() {
        s.test(TERMS, "Refused is, the first of these that fits, in this order: BAD -1 (a number that is none, or not as told)",
                this::badFirst);
        s.test(TERMS, "FULL -2", this::fullIsMinusTwo);
        s.test(TERMS, "STATE -4 (not now)", this::stateAheadOfSpent);
        s.test(TERMS, "SPENT -6 (more than told)", this::spent);
        s.test(TERMS, "FINDING -3 (finding() tells which), unless a call says so otherwise.", this::findingLast);
        s.test(TERMS, "NONE -9.", this::none);
        s.test(TERMS, "What is refused changes nothing but finding(), findings().", this::refusedChangesNothing);
        s.test(TERMS, "FINDINGS: 1 NOTHING (a ROW, a TEXT, a kept GAME that is missing)", this::nothing);
        s.test(TERMS, "2 BEYOND (a place that there is not)", this::beyond);
        s.test(TERMS, "3 UNLIKE (a PLAYER of another KIND; a number that is none)", this::unlike);
        s.test(TERMS, "4 NOUGHT (shared among none; without end)", this::nought);
        s.test(TERMS, "5 SIZE (fewer than none; not as many as due)", this::size);
        s.test(TERMS, "Fractions are told by upper(), lower(), in lowest terms", this::fractions);
        s.test(TERMS, "the lower number above 0 (0 by 1).", this::fractionOfNought);
        s.test(TERMS, "Sets are told by bits.", this::sets);
    }

    private void texts() {
        s.test(TERMS, "ROWS 0 .. 5 are rows of 0 to 60 ints", this::rows);
        s.test(TERMS, "TEXTS 0 .. 3 rows of 0 to 60 bytes", this::textsOfBytes);
        s.test(TERMS, "or missing (at first).", this::missingAtFirst);
        s.test(TERMS, "A GAME (without PLAYERS, nothing SAID, LAW 0 at first) is a TEXT", this::gameAtFirst);
        s.test(TERMS, "blanks (32) ahead, between, behind as many as wanted", this::blanks);
        s.test(TERMS, "none within items.", this::noBlanksWithin);
        s.test(TERMS, "Items (perhaps none)", this::noItems);
        s.test(TERMS, "l (108) and a LAW (0 .. 2, one figure", this::lawItem);
        s.test(TERMS, "once at most, ahead of all others)", this::lawOnceAhead);
        s.test(TERMS, "a letter of a PLAYER (2 at most; 0, 1 as they come)", this::playersAsTheyCome);
        s.test(TERMS, "p (112) PLAYER, s (115) SMALL, a (97) PAIR, b (98) BEST, g (103) LONG, c (99) CHANCE",
                this::letters);
        s.test(TERMS, "n (110) and a number (2 .. 60, one or two figures)", this::numberItem);
        s.test(TERMS, "SAID (one behind the other; each must be one that MAY be SAID then", this::numbersMayBeSaid);
        s.test(TERMS, "12 at most)", this::twelveAtMost);
    }

    private void faults() {
        s.test(TERMS, "A FAULT is the first place at which it can't go on so", this::firstFault);
        s.test(TERMS, "a number out of these", this::faultOfANumberOut);
        s.test(TERMS, "one that may not be SAID: the place behind", this::faultOfANumberHad);
        s.test(TERMS, "a letter", this::faultOfALetter);
        s.test(TERMS, "a figure that is none such", this::faultOfAFigure);
        s.test(TERMS, "a third PLAYER", this::faultOfAThirdPlayer);
        s.test(TERMS, "a thirteenth number", this::faultOfAThirteenth);
        s.test(TERMS, "a LAW behind others: its place", this::faultOfALawBehind);
        s.test(TERMS, "the TEXT's size, if its end comes too early)", this::faultOfTheEnd);
        s.test(TERMS, "KINDS of PLAYERS: 0 PLAYER, 1 SMALL (a PLAYER), 2 PAIR (a PLAYER), 3 BEST (a PLAYER), "
                + "4 LONG (a SMALL), 5 CHANCE (a PAIR).", this::kinds);
    }

    private void laws() {
        s.test(TERMS, "By LAW 0 HAD is each sum of SAID numbers, each as often as one likes (once at least in all)",
                this::byLaw0);
        s.test(TERMS, "by LAW 1 each number (above 0) that comes by adding and taking off SAID numbers", this::byLaw1);
        s.test(TERMS, "by LAW 2 each sum of SAID ones, each three times at most", this::byLaw2);
        s.test(TERMS, "GAPS are the numbers from 1 on that are not HAD.", this::gaps);
        s.test(TERMS, "A number 1 .. 60 MAY be SAID, if it is not HAD", this::may);
        s.test(TERMS, "(whether the GAME is OVER or not: say() alone looks at that, too)", this::mayWhenOver);
        s.test(TERMS, "The GAME is OVER, when 1 was SAID", this::overByOne);
        s.test(TERMS, "or none of 1 .. 60 MAY be.", this::overByNone);
        s.test(TERMS, "LOST has who said 1", this::lostByOne);
        s.test(TERMS, "else who is to speak, as none MAY be", this::lostByNone);
        s.test(TERMS, "PLAYER 0 says the first number of all (those of the TEXT count), then by turns", this::turns);
    }

    private void solved() {
        s.test(TERMS, "SOLVED can a GAME be by LAW 0", this::solvedByLaw0);
        s.test(TERMS, "when GAPS have an end", this::solvedWithAnEnd);
        s.test(TERMS, "and are 14 at most", this::solvedFourteen);
        s.test(TERMS, "who is to speak WINS, if by some GAP that is not 1, SAID, the other one does not win", this::wins);
        s.test(TERMS, "with no GAP but 1 one does not.", this::winsNotWithOneAlone);
    }

    private void sayings() {
        s.test(TERMS, "What a PLAYER SAYS (if it is not OVER), of all that MAY be SAID: PLAYER the least above 1",
                this::saysPlayer);
        s.test(TERMS, "SMALL that above 1 (the first) behind which the fewest of 1 .. 60 MAY be SAID", this::saysSmall);
        s.test(TERMS, "LONG that behind which most", this::saysLong);
        s.test(TERMS, "PAIR the greatest one of all that MAY be, less the number SAID last", this::saysPair);
        s.test(TERMS, "(the greatest itself, if nothing was)", this::saysPairOfNothing);
        s.test(TERMS, "if that is above 1 and MAY be, else as a PLAYER", this::saysPairElse);
        s.test(TERMS, "BEST the least above 1 by which it WINS", this::saysBest);
        s.test(TERMS, "if it can be SOLVED, and there is one, else as a PLAYER", this::saysBestElse);
        s.test(TERMS, "CHANCE, by LOTS: of those above 1 that at a number modulo how many there are (from 0, the least first)",
                this::saysChance);
        s.test(TERMS, "without LOTS as a PAIR", this::saysChanceWithoutLots);
        s.test(TERMS, "If none above 1 MAY be: 1.", this::saysOne);
        s.test(TERMS, "LOTS: a number comes from the one ahead by 48271 times it modulo 2147483647", this::lots);
        s.test(TERMS, "the first from a seed (1 .. 2147483646)", this::lotsOfSeedsAtTheEnds);
    }

    private static WhoSaysOne withOne(String game) {
        WhoSaysOne x = Check.of(game);
        x.say(1);
        return x;
    }

    // ---- answers

    private void badFirst() {
        s.due("BAD", WhoSaysOne.BAD, -1);
        s.due("ahead of STATE: rest(1, 0) by LAW 1", Check.of("l1").rest(1, 0), -1);
        s.due("ahead of STATE: says(1) when OVER", withOne("p").says(1), -1);
        s.due("ahead of STATE: best(6) by LAW 1", Check.of("l1").best(6), -1);
        s.due("ahead of SPENT: best(6)", new WhoSaysOne().best(6), -1);
        s.due("ahead of STATE: say(61) when OVER", withOne("").say(61), -1);
        s.due("ahead of FULL: say(61)", Check.of(TWELVE).say(61), -1);
        s.due("ahead of STATE: play(13, 1)", new WhoSaysOne().play(13, 1), -1);
        s.due("ahead of FINDING: row(6, -1)", new WhoSaysOne().row(6, -1), -1);
        s.due("ahead of FINDING: gaps(6)", new WhoSaysOne().gaps(6), -1);
    }

    private void fullIsMinusTwo() {
        s.due("FULL", WhoSaysOne.FULL, -2);
        s.due("say(48) behind twelve", Check.of(TWELVE).say(48), -2);
    }

    private void stateAheadOfSpent() {
        s.due("STATE", WhoSaysOne.STATE, -4);
        WhoSaysOne x = Check.of("l2n2n3");
        s.due("whose() by LAW 2 with GAPS without end", x.whose(), -4);
        s.due("best(0)", x.best(0), -4);
        s.due("lasts()", x.lasts(), -4);
        s.due("share()", x.share(), -4);
    }

    private void spent() {
        s.due("SPENT", WhoSaysOne.SPENT, -6);
        WhoSaysOne x = Check.of("n2n31");
        s.due("whose() of 15 GAPS", x.whose(), -6);
        s.due("best(0)", x.best(0), -6);
        s.due("lasts()", x.lasts(), -6);
        s.due("share()", x.share(), -6);
    }

    private void findingLast() {
        s.due("FINDING", WhoSaysOne.FINDING, -3);
        WhoSaysOne x = withOne("pn5");
        s.dueFinding(x, "mark(0, 1) says so otherwise", x.mark(0, 1), 3);
        s.dueFinding(x, "game(1) says so otherwise", x.game(1), 1);
    }

    private void none() {
        s.due("NONE", WhoSaysOne.NONE, -9);
        WhoSaysOne x = new WhoSaysOne();
        s.due("from()", x.from(), -9);
        s.due("rest(2, 0)", x.rest(2, 0), -9);
        s.due("finding()", x.finding(), 0);
    }

    private WhoSaysOne looked;
    private long digest;
    private long[] told;
    private int[] found;

    private void look(WhoSaysOne x) {
        looked = x;
        digest = x.digest();
        told = new long[] {x.asked(), x.upper(), x.lower(), x.finding()};
        found = new int[6];
        for (int f = 1; f <= 5; f++) {
            found[f] = x.findings(f);
        }
    }

    /** A refused call: nothing is otherwise than when it was looked at, but for the FINDING (0: none). */
    private void dueRefused(String call, int got, int want, int finding) {
        s.due(call, got, want);
        s.due("digest() behind " + call, looked.digest(), digest);
        s.due("asked() behind " + call, looked.asked(), told[0]);
        s.due("upper() behind " + call, looked.upper(), told[1]);
        s.due("lower() behind " + call, looked.lower(), told[2]);
        if (finding > 0) {
            told[3] = finding;
            found[finding]++;
        }
        s.due("finding() behind " + call, looked.finding(), told[3]);
        for (int f = 1; f <= 5; f++) {
            s.due("findings(" + f + ") behind " + call, looked.findings(f), found[f]);
        }
    }

    /** An object with something of all that there can be; by LAW 0, with GAPS 1, 2, 3, 6, 7, 11. */
    private static WhoSaysOne rich() {
        WhoSaysOne x = Check.of("ps n4n5");
        Check.fill(x, 0, 1, 1);
        Check.fill(x, 1, 1, 5);
        x.row(2, 0);
        Check.write(x, 3, "l1c n9x");
        x.keep(1);
        x.at(1, 1);
        x.share();
        return x;
    }

    private void refusedChangesNothing() {
        rowsRefused(rich());
        gamesRefused(rich());
        sumsRefused(rich());
        WhoSaysOne x = rich();
        x.say(1);
        refusedWhenOver(x);
        x = rich();
        x.undo(0);
        refusedWithNothingSaid(x);
    }

    private void rowsRefused(WhoSaysOne x) {
        look(x);
        dueRefused("row(6, 1)", x.row(6, 1), -1, 0);
        dueRefused("row(0, 61)", x.row(0, 61), -1, 0);
        dueRefused("row(0, -1)", x.row(0, -1), -3, 5);
        dueRefused("lay(6, 0, 9)", x.lay(6, 0, 9), -1, 0);
        dueRefused("lay(3, 0, 9)", x.lay(3, 0, 9), -3, 1);
        dueRefused("lay(0, 2, 9)", x.lay(0, 2, 9), -3, 2);
        dueRefused("at(6, 0)", x.at(6, 0), -1, 0);
        dueRefused("at(3, 0)", x.at(3, 0), -3, 1);
        dueRefused("at(0, 2)", x.at(0, 2), -3, 2);
        dueRefused("tear(6)", x.tear(6), -1, 0);
        dueRefused("tear(3)", x.tear(3), -3, 1);
        dueRefused("copy(6, 0, 0, 0, 1)", x.copy(6, 0, 0, 0, 1), -1, 0);
        dueRefused("copy(0, 0, 1, 0, -1)", x.copy(0, 0, 1, 0, -1), -3, 5);
        dueRefused("copy(0, 0, 3, 0, 1)", x.copy(0, 0, 3, 0, 1), -3, 1);
        dueRefused("copy(1, 0, 0, 0, 3)", x.copy(1, 0, 0, 0, 3), -3, 2);
        dueRefused("mean(6)", x.mean(6), -1, 0);
        dueRefused("mean(3)", x.mean(3), -3, 1);
        dueRefused("mean(2)", x.mean(2), -3, 4);
        dueRefused("text(4, 1)", x.text(4, 1), -1, 0);
        dueRefused("text(0, 61)", x.text(0, 61), -1, 0);
        dueRefused("text(0, -1)", x.text(0, -1), -3, 5);
        dueRefused("put(4, 0, 9)", x.put(4, 0, 9), -1, 0);
        dueRefused("put(1, 0, 9)", x.put(1, 0, 9), -3, 1);
        dueRefused("put(0, 9, 9)", x.put(0, 9, 9), -3, 2);
        dueRefused("fault(4)", x.fault(4), -1, 0);
        dueRefused("fault(1)", x.fault(1), -3, 1);
    }

    private void gamesRefused(WhoSaysOne x) {
        look(x);
        dueRefused("game(4)", x.game(4), -1, 0);
        dueRefused("game(1)", x.game(1), -3, 1);
        dueRefused("game(3)", x.game(3), -4, 0);
        dueRefused("player(2)", x.player(2), -1, 0);
        dueRefused("mark(2, 1)", x.mark(2, 1), -1, 0);
        dueRefused("mark(0, 0)", x.mark(0, 0), -1, 0);
        dueRefused("mark(0, 1)", x.mark(0, 1), -3, 3);
        dueRefused("say(0)", x.say(0), -1, 0);
        dueRefused("say(8)", x.say(8), -4, 0);
        dueRefused("may(61)", x.may(61), -1, 0);
        dueRefused("said(-1)", x.said(-1), -1, 0);
        dueRefused("said(2)", x.said(2), -3, 2);
        dueRefused("undo(3)", x.undo(3), -1, 0);
        dueRefused("keep(3)", x.keep(3), -1, 0);
        dueRefused("on(3)", x.on(3), -1, 0);
        dueRefused("on(0)", x.on(0), -3, 1);
        dueRefused("says(2)", x.says(2), -1, 0);
        dueRefused("play(13, 1)", x.play(13, 1), -1, 0);
        dueRefused("play(1, 0)", x.play(1, 0), -1, 0);
        dueRefused("count(8)", x.count(8), -1, 0);
        dueRefused("findings(6)", x.findings(6), -1, 0);
    }

    private void sumsRefused(WhoSaysOne x) {
        look(x);
        dueRefused("had(0)", x.had(0), -1, 0);
        dueRefused("ways(0)", x.ways(0), -1, 0);
        dueRefused("byJust(1, 21)", x.byJust(1, 21), -1, 0);
        dueRefused("gaps(6)", x.gaps(6), -1, 0);
        dueRefused("rest(2, 2)", x.rest(2, 2), -1, 0);
        dueRefused("wish(0)", x.wish(0), -1, 0);
        dueRefused("wish(12)", x.wish(12), -4, 0);
        dueRefused("best(6)", x.best(6), -1, 0);
        dueRefused("list(6)", x.list(6), -1, 0);
        dueRefused("list(3)", x.list(3), -3, 1);
        dueRefused("list(0)", x.list(0), -3, 3);
        dueRefused("makes(1, 6)", x.makes(1, 6), -1, 0);
        dueRefused("makes(3, 1)", x.makes(3, 1), -3, 1);
        dueRefused("makes(0, 1)", x.makes(0, 1), -3, 3);
        dueRefused("makes(1, 4)", x.makes(1, 4), -3, 3);
        dueRefused("tree(10, 0)", x.tree(10, 0), -1, 0);
    }

    private void refusedWhenOver(WhoSaysOne x) {
        look(x);
        dueRefused("OVER: say(2)", x.say(2), -4, 0);
        dueRefused("OVER: mark(1, 1)", x.mark(1, 1), -4, 0);
        dueRefused("OVER: wish(1)", x.wish(1), -4, 0);
        dueRefused("OVER: whose()", x.whose(), -4, 0);
        dueRefused("OVER: best(0)", x.best(0), -4, 0);
        dueRefused("OVER: lasts()", x.lasts(), -4, 0);
        dueRefused("OVER: share()", x.share(), -4, 0);
        dueRefused("OVER: says(0)", x.says(0), -4, 0);
    }

    private void refusedWithNothingSaid(WhoSaysOne x) {
        look(x);
        dueRefused("gaps(0)", x.gaps(0), -3, 4);
        dueRefused("greatest()", x.greatest(), -3, 4);
        dueRefused("whose()", x.whose(), -6, 0);
        dueRefused("best(0)", x.best(0), -6, 0);
        dueRefused("lasts()", x.lasts(), -6, 0);
        dueRefused("share()", x.share(), -6, 0);
        for (int n = 60; n > 48; n--) {
            x.say(n);
        }
        look(x);
        dueRefused("FULL: say(48)", x.say(48), -2, 0);
        Check.write(x, 0, "l1p n4");
        x.game(0);
        look(x);
        dueRefused("by LAW 1: ways(4)", x.ways(4), -4, 0);
        dueRefused("by LAW 1: byJust(4, 1)", x.byJust(4, 1), -4, 0);
        dueRefused("by LAW 1: rest(4, 1)", x.rest(4, 1), -4, 0);
        dueRefused("of one PLAYER: play(1, 1)", x.play(1, 1), -4, 0);
    }

    private void nothing() {
        WhoSaysOne x = new WhoSaysOne();
        s.dueFinding(x, "a ROW: at(0, 0)", x.at(0, 0), 1);
        s.dueFinding(x, "a TEXT: fault(0)", x.fault(0), 1);
        s.dueFinding(x, "a kept GAME: on(0)", x.on(0), 1);
        s.due("findings(1)", x.findings(1), 3);
    }

    private void beyond() {
        WhoSaysOne x = new WhoSaysOne();
        x.row(0, 0);
        x.text(0, 0);
        s.dueFinding(x, "of a ROW: at(0, 0)", x.at(0, 0), 2);
        s.dueFinding(x, "of a TEXT: put(0, 0, 1)", x.put(0, 0, 1), 2);
        s.dueFinding(x, "of what was SAID: said(0)", x.said(0), 2);
        s.due("findings(2)", x.findings(2), 3);
    }

    private void unlike() {
        WhoSaysOne x = Check.of("p");
        Check.fill(x, 0, 61);
        s.dueFinding(x, "a PLAYER: mark(0, 1)", x.mark(0, 1), 3);
        s.dueFinding(x, "a number: list(0)", x.list(0), 3);
        s.due("findings(3)", x.findings(3), 2);
    }

    private void nought() {
        WhoSaysOne x = new WhoSaysOne();
        x.row(0, 0);
        s.dueFinding(x, "shared among none: mean(0)", x.mean(0), 4);
        s.dueFinding(x, "without end: greatest()", x.greatest(), 4);
        s.due("findings(4)", x.findings(4), 2);
    }

    private void size() {
        WhoSaysOne x = new WhoSaysOne();
        x.row(0, 1);
        s.dueFinding(x, "row(0, -1)", x.row(0, -1), 5);
        s.dueFinding(x, "text(0, -1)", x.text(0, -1), 5);
        s.dueFinding(x, "copy(0, 0, 0, 0, -1)", x.copy(0, 0, 0, 0, -1), 5);
        s.due("findings(5)", x.findings(5), 3);
    }

    private void fractions() {
        WhoSaysOne x = Check.of("n4n9n11");
        s.due("2 of 8: share()", x.share(), 2);
        s.due("upper()", x.upper(), 1);
        s.due("lower()", x.lower(), 4);
        x = Check.of("n6n7n8");
        s.due("3 of 9: share()", x.share(), 3);
        s.due("upper()", x.upper(), 1);
        s.due("lower()", x.lower(), 3);
    }

    private void fractionOfNought() {
        WhoSaysOne x = Check.of("n4n5n11");
        s.due("0 of 5: share()", x.share(), 0);
        s.due("upper()", x.upper(), 0);
        s.due("lower()", x.lower(), 1);
    }

    private void sets() {
        s.due("places 0, 2: needed()", Check.of("n5n12n7").needed(), 5);
        s.due("places 1, 3: needed()", Check.of("n24n9n16n8").needed(), 10);
    }

    // ---- TEXTS

    private void rows() {
        WhoSaysOne x = new WhoSaysOne();
        for (int r = 0; r < 6; r++) {
            s.due("row(" + r + ", 0)", x.row(r, 0), 0);
            s.due("row(" + r + ", 60)", x.row(r, 60), 60);
            s.dueAsked(x, "lay(" + r + ", 59, MIN)", x.lay(r, 59, Integer.MIN_VALUE), 1, 0);
            s.dueAsked(x, "at(" + r + ", 59)", x.at(r, 59), 1, Integer.MIN_VALUE);
        }
        s.due("row(6, 0)", x.row(6, 0), -1);
        s.due("row(5, 61)", x.row(5, 61), -1);
    }

    private void textsOfBytes() {
        WhoSaysOne x = new WhoSaysOne();
        for (int t = 0; t < 4; t++) {
            s.due("text(" + t + ", 0)", x.text(t, 0), 0);
            s.due("text(" + t + ", 60)", x.text(t, 60), 60);
            s.due("put(" + t + ", 59, 300)", x.put(t, 59, 300), 1032);
            s.due("put(" + t + ", 59, 0)", x.put(t, 59, 0), 1044);
        }
        s.due("text(4, 0)", x.text(4, 0), -1);
        s.due("text(3, 61)", x.text(3, 61), -1);
    }

    private void missingAtFirst() {
        WhoSaysOne x = new WhoSaysOne();
        for (int r = 0; r < 6; r++) {
            s.dueFinding(x, "mean(" + r + ")", x.mean(r), 1);
        }
        for (int t = 0; t < 4; t++) {
            s.dueFinding(x, "game(" + t + ")", x.game(t), 1);
        }
    }

    private void gameAtFirst() {
        WhoSaysOne x = Check.of("  ");
        s.due("count(0)", x.count(0), 0);
        s.due("count(1)", x.count(1), 0);
        s.due("law()", x.law(), 0);
    }

    private void dueFault(String text, int want) {
        WhoSaysOne x = new WhoSaysOne();
        Check.write(x, 2, text);
        s.due("fault of '" + text + "'", x.fault(2), want);
        s.due("game of '" + text + "' is refused", x.game(2) == -4 ? 1 : 0, want == -9 ? 0 : 1);
    }

    private void blanks() {
        dueFault("   l1   p   s   n12   n20   ", -9);
        dueFault("l1psn12n20", -9);
        dueFault(" ".repeat(60), -9);
        dueFault(" ".repeat(57) + "n60", -9);
        dueFault("n60" + " ".repeat(57), -9);
        dueFault("" + (char) 9, 0);
        dueFault("p" + (char) 10, 1);
        dueFault("p" + (char) 0, 1);
    }

    private void noBlanksWithin() {
        dueFault("l 0", 1);
        dueFault("n 5", 1);
        dueFault("n2 0", 3);
        dueFault("n1 2", 2);
    }

    private void noItems() {
        dueFault("", -9);
        dueFault(" ", -9);
        dueFault("l2", -9);
        dueFault("p", -9);
        dueFault("n2", -9);
    }

    private void lawItem() {
        for (int law = 0; law <= 2; law++) {
            dueFault("l" + law, -9);
            s.due("law()", Check.of("l" + law).law(), law);
        }
        dueFault("l3", 1);
        dueFault("l9", 1);
        dueFault("l/", 1);
        dueFault("l:", 1);
        dueFault("l-1", 1);
        dueFault("l00", 2);
        dueFault("l10", 2);
        dueFault("L0", 0);
    }

    private void lawOnceAhead() {
        dueFault("l0l0", 2);
        dueFault("l1 l1", 3);
        dueFault(" l1", -9);
        dueFault("pl1", 1);
        dueFault("n5l1", 2);
    }

    private void playersAsTheyCome() {
        WhoSaysOne x = Check.of("n5 g n7 a");
        s.due("player(0)", x.player(0), 4);
        s.due("player(1)", x.player(1), 2);
        s.due("count(1)", x.count(1), 2);
        dueFault("bb", -9);
        dueFault("bbb", 2);
    }

    private void letters() {
        int[] bytes = {112, 115, 97, 98, 103, 99};
        int[] kinds = {0, 1, 2, 3, 4, 5};
        for (int i = 0; i < 6; i++) {
            s.due("player(0) of " + bytes[i], Check.of("" + (char) bytes[i]).player(0), kinds[i]);
        }
    }

    private void numberItem() {
        for (int n = 2; n <= 60; n++) {
            WhoSaysOne x = Check.of("n" + n);
            s.due("said(0)", x.said(0), n);
        }
        dueFault("n1", 2);
        dueFault("n61", 3);
        dueFault("n60", -9);
        dueFault("n2", -9);
        dueFault("n5p", -9);
        dueFault("n100", 3);
    }

    private void numbersMayBeSaid() {
        WhoSaysOne x = Check.of("n9n7n5");
        s.due("said(0)", x.said(0), 9);
        s.due("said(1)", x.said(1), 7);
        s.due("said(2)", x.said(2), 5);
        dueFault("n5n7n9", -9);
        dueFault("n5n4n9", 6);
        dueFault("n9n4n5", -9);
        dueFault("n5n5", 4);
        dueFault("l1n6n4n9", -9);
        dueFault("l1n4n9n6", 8);
        dueFault("l2n5n20", -9);
        dueFault("l0n5n20", 7);
    }

    private void twelveAtMost() {
        dueFault(TWELVE, -9);
        dueFault("l2" + TWELVE + "ps", -9);
        dueFault(TWELVE + "n48", 36);
        s.due("count(1)", Check.of(TWELVE).count(1), 12);
    }

    // ---- FAULTS

    private void firstFault() {
        dueFault("xx", 0);
        dueFault(" p x n1 z", 3);
        dueFault("n1n99", 2);
        dueFault("n7n14n1", 5);
        dueFault("ps n5 g n10", 6);
    }

    private void faultOfANumberOut() {
        dueFault("n1", 2);
        dueFault("n1 n5", 2);
        dueFault("n1p", 2);
        dueFault("n0", 2);
        dueFault("n00", 3);
        dueFault("n01", 3);
        dueFault("n61", 3);
        dueFault("n99", 3);
        dueFault("n999", 3);
        dueFault(" ".repeat(57) + "n61", 60);
    }

    private void faultOfANumberHad() {
        dueFault("n5n10", 5);
        dueFault("n5 n5 p", 5);
        dueFault("n6n10n16n22", 8);
        dueFault("l1n4n9n7", 8);
        dueFault("l2n5n15", 7);
        dueFault(" ".repeat(56) + "n2n4", 60);
    }

    private void faultOfALetter() {
        dueFault("x", 0);
        dueFault("P", 0);
        dueFault("5", 0);
        dueFault("p5", 1);
        dueFault("px", 1);
        dueFault("ppx", 2);
        dueFault("n5x", 2);
        dueFault("n12x", 3);
        dueFault("" + (char) (112 + 128), 0);
        dueFault("" + (char) 255, 0);
        dueFault(" ".repeat(59) + "x", 59);
    }

    private void faultOfAFigure() {
        dueFault("nx", 1);
        dueFault("nn5", 1);
        dueFault("n-5", 1);
        dueFault("n/", 1);
        dueFault("n:", 1);
        dueFault("lx", 1);
        dueFault("l5", 1);
        dueFault("n123", 3);
        dueFault("n5:", 2);
        dueFault("n5/", 2);
    }

    private void faultOfAThirdPlayer() {
        for (char letter : "psabgc".toCharArray()) {
            dueFault("pp" + letter, 2);
            dueFault("g n5 c  " + letter, 8);
        }
    }

    private void faultOfAThirteenth() {
        dueFault(TWELVE + "n48", 36);
        dueFault(TWELVE + "  n48", 38);
        dueFault(TWELVE + "n", 36);
        dueFault(TWELVE + "nx", 36);
        dueFault(TWELVE + "n60", 36);
        dueFault(TWELVE + "p", -9);
    }

    private void faultOfALawBehind() {
        dueFault("pl0", 1);
        dueFault("n5 l0", 3);
        dueFault("l0l", 2);
        dueFault("l0 l9", 3);
        dueFault("psl1", 2);
    }

    private void faultOfTheEnd() {
        dueFault("l", 1);
        dueFault("n", 1);
        dueFault("psn", 3);
        dueFault("   l", 4);
        dueFault("n5n", 3);
        dueFault(" ".repeat(59) + "n", 60);
        dueFault(" ".repeat(59) + "l", 60);
        dueFault(" ".repeat(58) + "n5", -9);
    }

    private void kinds() {
        boolean[][] is = new boolean[6][6];
        for (int kind = 1; kind < 6; kind++) {
            is[kind][kind] = true;
        }
        is[4][1] = true;
        is[5][2] = true;
        String letters = "psabgc";
        for (int kind = 0; kind < 6; kind++) {
            WhoSaysOne x = Check.of("" + letters.charAt(kind));
            s.due("player(0)", x.player(0), kind);
            for (int other = 1; other < 6; other++) {
                s.due(kind + " is " + other, x.mark(0, other) == -3 ? 0 : 1, is[kind][other] ? 1 : 0);
            }
        }
    }

    // ---- LAWS

    private void dueHad(String game, String had) {
        WhoSaysOne x = Check.of(game);
        for (int v = 1; v <= 60; v++) {
            s.due(game + ": had(" + v + ")", x.had(v), had.contains(" " + v + " ") ? 1 : 0);
            s.due(game + ": may(" + v + ")", x.may(v), had.contains(" " + v + " ") ? 0 : 1);
        }
    }

    private void byLaw0() {
        dueHad("n20n7", " 7 14 20 21 27 28 34 35 40 41 42 47 48 49 54 55 56 60 ");
        dueHad("", "");
        dueHad("n60", " 60 ");
    }

    private void byLaw1() {
        dueHad("l1n20n8", " 4 8 12 16 20 24 28 32 36 40 44 48 52 56 60 ");
        dueHad("l1", "");
        dueHad("l1n25", " 25 50 ");
        dueHad("l1n60n48n42", " 6 12 18 24 30 36 42 48 54 60 ");
    }

    private void byLaw2() {
        dueHad("l2n20n7", " 7 14 20 21 27 34 40 41 47 54 60 ");
        dueHad("l2", "");
        dueHad("l2n15", " 15 30 45 ");
    }

    private void gaps() {
        WhoSaysOne x = Check.of("n4n5");
        s.due("gaps(0)", x.gaps(0), 6);
        s.dueRow(x, 0, 1, 2, 3, 6, 7, 11);
        x = Check.of("n59n60");
        x.gaps(0);
        s.dueAsked(x, "the first one", x.at(0, 0), 1, 1);
        s.dueAsked(x, "the last one is above 60", x.greatest(), 3421, 1711);
    }

    private void may() {
        WhoSaysOne x = Check.of("n20");
        s.due("may(1)", x.may(1), 1);
        s.due("may(60)", x.may(60), 0);
        s.due("may(59)", x.may(59), 1);
        s.due("count(2)", x.count(2), 57);
        s.due("may(61)", x.may(61), -1);
    }

    private void mayWhenOver() {
        WhoSaysOne x = withOne("l2cg n20");
        s.due("may(5)", x.may(5), 1);
        s.due("count(2)", x.count(2), 48);
        s.due("a CHANCE, how many above 1", x.mark(0, 5), 48);
        s.due("a LONG, how many", x.mark(1, 4), 48);
        s.due("a PAIR, the greatest less 1", x.mark(0, 2), 58);
        s.due("say(5) alone is refused", x.say(5), -4);
    }

    private void overByOne() {
        for (int law = 0; law <= 2; law++) {
            WhoSaysOne x = Check.of("l" + law + "p");
            s.due("not yet: says(0)", x.says(0), 2);
            x.say(1);
            s.due("by LAW " + law + ": says(0)", x.says(0), -4);
            s.due("say(2)", x.say(2), -4);
            x.undo(0);
            s.due("taken back: says(0)", x.says(0), 2);
        }
        s.due("1 alone MAY be: says(0)", Check.of("p n2n3").says(0), 1);
    }

    private void overByNone() {
        WhoSaysOne x = Check.of("l1p n4");
        s.due("says(0)", x.says(0), 2);
        s.due("say(9)", x.say(9), 0);
        s.due("says(0)", x.says(0), -4);
        s.dueAsked(x, "turn()", x.turn(), 0, 0);
        s.due("say(1)", x.say(1), -4);
    }

    private void lostByOne() {
        WhoSaysOne x = withOne("n2n3");
        s.dueAsked(x, "PLAYER 0: turn()", x.turn(), 1, 0);
        x = withOne("n2");
        s.dueAsked(x, "PLAYER 1: turn()", x.turn(), 0, 1);
        x = withOne("l2n2");
        s.dueAsked(x, "PLAYER 1: turn()", x.turn(), 0, 1);
    }

    private void lostByNone() {
        WhoSaysOne x = Check.of("l1n4n9");
        s.dueAsked(x, "PLAYER 0: turn()", x.turn(), 0, 0);
        x = Check.of("l1n8n4n9");
        s.dueAsked(x, "PLAYER 1: turn()", x.turn(), 1, 1);
    }

    private void turns() {
        WhoSaysOne x = new WhoSaysOne();
        s.due("the first: turn()", x.turn(), 0);
        x.say(9);
        s.due("turn()", x.turn(), 1);
        x.say(8);
        s.due("turn()", x.turn(), 0);
        s.due("one of the TEXT: turn()", Check.of("n9").turn(), 1);
        s.due("three of the TEXT: turn()", Check.of("n9n8n7").turn(), 1);
        s.due("twelve of the TEXT: turn()", Check.of(TWELVE).turn(), 0);
    }

    // ---- SOLVED

    private void solvedByLaw0() {
        s.due("by LAW 0", Check.of("n4n5").whose(), 1);
        s.due("by LAW 1", Check.of("l1n4n6").whose(), -4);
        s.due("by LAW 2", Check.of("l2n4n5").whose(), -4);
        s.due("a BEST by LAW 2", Check.of("l2b n4n5").mark(0, 3), -9);
    }

    private void solvedWithAnEnd() {
        s.due("nothing SAID", Check.of("").whose(), -6);
        s.due("2 in common", Check.of("n4n6").whose(), -6);
        s.due("a BEST with 2 in common", Check.of("b n4n6").mark(0, 3), -9);
    }

    private void solvedFourteen() {
        s.due("14 GAPS", Check.of("n2n29").whose(), 1);
        s.due("15 GAPS", Check.of("n2n31").whose(), -6);
        s.due("a BEST with 14 GAPS", Check.of("b n2n29").mark(0, 3), 1);
        s.due("a BEST with 15 GAPS", Check.of("b n2n31").mark(0, 3), -9);
        s.due("15 GAPS, the greatest 17", Check.of("n6n19n20n21n22n23").whose(), -6);
        s.due("a BEST with these", Check.of("b n6n19n20n21n22n23").mark(0, 3), -9);
        WhoSaysOne x = Check.of("n15n16n17n18n19n20n21n22n23n24n25n26");
        s.due("1 .. 14, 27 .. 29 are GAPS: gaps(0)", x.gaps(0), 17);
        s.due("17 GAPS", x.whose(), -6);
        x = Check.of("n13n14n15n16n17n18n19n20n21n22n23n24");
        s.due("1 .. 12, 25 are GAPS: gaps(0)", x.gaps(0), 13);
        s.due("13 GAPS", x.whose() < 0 ? 0 : 1, 1);
    }

    private void wins() {
        WhoSaysOne x = Check.of("n2n5");
        s.dueAsked(x, "by 3: whose()", x.whose(), 1, 1);
        x = Check.of("n4n5");
        s.dueAsked(x, "by 11: whose()", x.whose(), 1, 1);
        x.say(11);
        s.dueAsked(x, "behind 11: whose()", x.whose(), 0, 0);
        x.say(7);
        s.due("by one of them behind 11, 7: whose()", x.whose(), 1);
    }

    private void winsNotWithOneAlone() {
        WhoSaysOne x = Check.of("n2n3");
        s.dueAsked(x, "whose()", x.whose(), 0, 0);
        x = Check.of("b n3n5n4n2");
        s.dueAsked(x, "whose()", x.whose(), 0, 0);
        s.due("a BEST", x.mark(0, 3), 0);
    }

    // ---- what PLAYERS SAY

    private void dueSays(String game, int want) {
        s.due("says(0) of " + game, Check.of(game).says(0), want);
    }

    private void saysPlayer() {
        dueSays("p", 2);
        dueSays("p n2", 3);
        dueSays("p n5n4n2", 3);
        dueSays("l1p n30n20n8", 3);
        dueSays("l2p n2", 3);
        dueSays("l2p n2n3n14", 56);
    }

    private void saysSmall() {
        dueSays("s", 2);
        dueSays("s n4n5", 2);
        dueSays("l1s n30", 7);
        dueSays("l1s n30n20", 3);
        dueSays("l2s", 2);
    }

    private void saysLong() {
        dueSays("g", 31);
        dueSays("g n31", 32);
        dueSays("l1g n30", 15);
        dueSays("g n4n5", 11);
        dueSays("l2g", 31);
        dueSays("l2g n3n4n22", 60);
    }

    private void saysPair() {
        dueSays("a n50", 10);
        dueSays("a n8n7n9", 11);
        dueSays("a n20", 39);
        dueSays("l1a n20", 39);
    }

    private void saysPairOfNothing() {
        for (int law = 0; law <= 2; law++) {
            dueSays("l" + law + "a", 60);
            dueSays("l" + law + "c", 60);
        }
    }

    private void saysPairElse() {
        dueSays("a n58", 2);
        dueSays("a n59", 2);
        dueSays("a n60", 2);
        dueSays("a n2n9", 3);
        dueSays("a n2n31", 3);
        dueSays("l2a n15", 2);
        dueSays("a n57", 3);
    }

    private void saysBest() {
        dueSays("b n4n5", 11);
        dueSays("b n2n7", 3);
        dueSays("b n3n4n5", 2);
        dueSays("b n3n5", 2);
        WhoSaysOne x = Check.of("b n6n7n8");
        x.best(0);
        x.at(0, 0);
        s.due("the least of three", x.says(0), x.asked());
    }

    private void saysBestElse() {
        dueSays("b", 2);
        dueSays("b n4n6", 2);
        dueSays("b n2n31", 3);
        dueSays("l1b n4n6", 3);
        dueSays("l2b n4n5", 2);
        dueSays("b n4n5n11", 2);
        dueSays("b n2n3", 1);
    }

    private void dueFirstOfLots(String game, int seed, int want) {
        WhoSaysOne x = Check.of(game);
        int many = x.count(1);
        s.due("play(1, " + seed + ") of " + game, x.play(1, seed), 1);
        s.due("it said", x.said(many), want);
    }

    private void saysChance() {
        dueFirstOfLots("cc", 1, 2 + 48271 % 59);
        dueFirstOfLots("cc", 2, 2 + 96542 % 59);
        dueFirstOfLots("cc n2n31", 1, 3 + 2 * (48271 % 14));
        int[] left = {2, 3, 6, 7, 11};
        for (int seed = 1; seed <= 10; seed++) {
            dueFirstOfLots("cc n4n5", seed, left[48271 * seed % 5]);
        }
    }

    private void saysChanceWithoutLots() {
        dueSays("c n50", 10);
        dueSays("c", 60);
        dueSays("c n60", 2);
        dueSays("l2c n15", 2);
    }

    private void saysOne() {
        for (char letter : "psabgc".toCharArray()) {
            dueSays(letter + " n2n3", 1);
        }
        dueFirstOfLots("cc n2n3", 5, 1);
    }

    private void lots() {
        int[] known = {48271, 182605794, 1291394886, 1914720637, 2078669041, 407355683, 1105902161, 854716505};
        WhoSaysOne x = Check.of("cc");
        x.play(8, 1);
        s.due("eight were SAID, or it is OVER", x.count(1) > 1 ? 1 : 0, 1);
        WhoSaysOne y = new WhoSaysOne();
        for (int i = 0; i < x.count(1); i++) {
            int many = y.count(2) - 1;
            int want = many == 0 ? 1 : openAbove(y, known[i] % many);
            s.due("by LOT " + i, x.said(i), want);
            y.say(want);
        }
    }

    private static int openAbove(WhoSaysOne y, int ahead) {
        int left = ahead;
        for (int n = 2; n <= 60; n++) {
            if (y.may(n) == 1 && left-- == 0) {
                return n;
            }
        }
        return 1;
    }

    private void lotsOfSeedsAtTheEnds() {
        dueFirstOfLots("cc", 2147483646, 2 + (2147483647 - 48271) % 59);
        dueFirstOfLots("cc", 1, 11);
        s.due("the seed of the LOT 1", 48271L * 1899818559 % 2147483647, 1);
        dueFirstOfLots("cc", 1899818559, 3);
        s.due("play(1, 0)", Check.of("cc").play(1, 0), -1);
        s.due("play(1, 2147483647)", Check.of("cc").play(1, 2147483647), -1);
    }

    // ---- use

    /** The answers of the last calls of one object are those of a new one. */
    private void manyCalls() {
        WhoSaysOne x = new WhoSaysOne();
        int a = 4;
        int b = 4;
        for (int call = 0; call < 510; call += 6) {
            b = b < 12 ? b + 1 : 5;
            a = b == 5 ? a + 1 : a;
            x.undo(0);
            x.say(a);
            x.say(b);
            x.say(a + b - 2);
            WhoSaysOne fresh = new WhoSaysOne();
            fresh.say(a);
            fresh.say(b);
            fresh.say(a + b - 2);
            int whose = x.whose();
            s.due("whose() of " + a + ", " + b, whose, fresh.whose());
            if (whose >= 0) {
                s.due("asked()", x.asked(), fresh.asked());
            }
        }
        x = new WhoSaysOne();
        for (int call = 0; call < 512; call++) {
            s.due("tree(9, 13)", x.tree(9, 13), 1);
        }
        x = Check.of(TWELVE);
        for (int call = 0; call < 400; call++) {
            s.due("byJust(400, 7)", x.byJust(400, 7), 1);
        }
        s.due("had(4000)", x.had(4000), 1);
    }
}
