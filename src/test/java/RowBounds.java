/** Sentences of promises 1 to 9: a new object, ROWS, TEXTS. */
final class RowBounds {
    private static final int MAX = Integer.MAX_VALUE, MIN = Integer.MIN_VALUE;
    private static final int[] NO_ROW = {-1, 6, MIN, MAX};
    private static final int[] NO_TEXT = {-1, 4, MIN, MAX};

    private final Sentences s;

    RowBounds(Sentences s) {
        this.s = s;
    }

    void all() {
        s.test(1, "No ROWS", this::newWithoutRows);
        s.test(1, "TEXTS", this::newWithoutTexts);
        s.test(1, "PLAYERS", this::newWithoutPlayers);
        s.test(1, "nothing SAID", this::newWithNothingSaid);
        s.test(1, "LAW 0", this::newByLaw0);
        s.test(2, "A ROW is there with n ints 0: n.", this::rowIsThere);
        s.test(2, "A ROW is there", this::rowOfNone);
        s.test(2, "with n ints 0", this::rowIsNoughtAnew);
        s.test(2, "BAD: also n above 60", this::rowAboveSixty);
        s.test(2, "BAD", this::rowOfNoNumber);
        s.test(2, "SIZE: below 0", this::rowBelowNone);
        s.test(3, "Place i of a ROW is v: what it was, told by asked(): 1.", this::lay);
        s.test(3, "Place i of a ROW", this::layAtTheEnds);
        s.test(3, "BAD", this::layBad);
        s.test(3, "NOTHING", this::layNothing);
        s.test(3, "BEYOND", this::layBeyond);
        s.test(4, "Place i of a ROW, told by asked(): 1.", this::at);
        s.test(4, "BAD", this::atBad);
        s.test(4, "NOTHING", this::atNothing);
        s.test(4, "BEYOND", this::atBeyond);
        s.test(5, "A ROW is missing: 1.", this::tear);
        s.test(5, "BAD", this::tearBad);
        s.test(5, "NOTHING", this::tearNothing);
        copies();
        s.test(7, "The mean of a ROW's ints", this::mean);
        s.test(7, "cut, told by asked(): 1.", this::meanCut);
        s.test(7, "ints", this::meanOfGreatInts);
        s.test(7, "BAD", this::meanBad);
        s.test(7, "NOTHING", this::meanNothing);
        s.test(7, "NOUGHT", this::meanNought);
        s.test(8, "A TEXT is there with n blanks: n.", this::textIsThere);
        s.test(8, "A TEXT is there", this::textOfNone);
        s.test(8, "with n blanks", this::textIsBlankAnew);
        s.test(8, "BAD: also n above 60", this::textAboveSixty);
        s.test(8, "BAD", this::textOfNoNumber);
        s.test(8, "SIZE: below 0", this::textBelowNone);
        s.test(9, "Byte i of a TEXT is v", this::put);
        s.test(9, "cut to a byte (-128 .. 127)", this::putCut);
        s.test(9, "what it was, and 1000 more", this::putTellsWhatWas);
        s.test(9, "BAD", this::putBad);
        s.test(9, "NOTHING", this::putNothing);
        s.test(9, "BEYOND", this::putBeyond);
    }

    private void copies() {
        s.test(6, "n places of a ROW, from one on, come to those of another one", this::copy);
        s.test(6, "(perhaps itself) from one on, as if taken ahead: 1.", this::copyUpInItself);
        s.test(6, "as if taken ahead", this::copyDownInItself);
        s.test(6, "BAD", this::copyBad);
        s.test(6, "SIZE: n below 0", this::copyBelowNone);
        s.test(6, "NOTHING: either", this::copyFromNothing);
        s.test(6, "either", this::copyToNothing);
        s.test(6, "BEYOND: not so many there", this::copyTooManyFrom);
        s.test(6, "not so many there", this::copyTooManyTo);
        s.test(6, "(also with n 0, if i, j is below 0", this::copyNoneFromBelow);
        s.test(6, "or above its size)", this::copyNoneFromAbove);
        s.test(6, "n 0", this::copyNoneAtTheEnd);
        s.test(6, "(In this order.)", this::copyOrder);
    }

    // ---- promise 1

    private void newWithoutRows() {
        WhoSaysOne x = new WhoSaysOne();
        s.due("count(6)", x.count(6), 0);
        for (int r = 0; r < 6; r++) {
            s.dueFinding(x, "at(" + r + ", 0)", x.at(r, 0), 1);
        }
    }

    private void newWithoutTexts() {
        WhoSaysOne x = new WhoSaysOne();
        s.due("count(7)", x.count(7), 0);
        for (int t = 0; t < 4; t++) {
            s.dueFinding(x, "fault(" + t + ")", x.fault(t), 1);
        }
    }

    private void newWithoutPlayers() {
        WhoSaysOne x = new WhoSaysOne();
        s.due("count(0)", x.count(0), 0);
        s.due("player(0)", x.player(0), -1);
        s.due("player(1)", x.player(1), -1);
    }

    private void newWithNothingSaid() {
        WhoSaysOne x = new WhoSaysOne();
        s.due("count(1)", x.count(1), 0);
        s.dueFinding(x, "said(0)", x.said(0), 2);
        s.due("count(2)", x.count(2), 60);
        s.due("count(5)", x.count(5), 0);
    }

    private void newByLaw0() {
        WhoSaysOne x = new WhoSaysOne();
        s.due("law()", x.law(), 0);
        x.say(14);
        s.due("ways(28), by LAW 0 alone", x.ways(28), 1);
        s.due("may(56)", x.may(56), 0);
    }

    // ---- promise 2

    private void rowIsThere() {
        WhoSaysOne x = new WhoSaysOne();
        for (int r = 0; r < 6; r++) {
            s.due("row(" + r + ", 60)", x.row(r, 60), 60);
            s.due("count(6)", x.count(6), r + 1);
            s.dueAsked(x, "at(" + r + ", 59)", x.at(r, 59), 1, 0);
            s.dueFinding(x, "at(" + r + ", 60)", x.at(r, 60), 2);
        }
    }

    private void rowOfNone() {
        WhoSaysOne x = new WhoSaysOne();
        s.due("row(3, 0)", x.row(3, 0), 0);
        s.due("count(6)", x.count(6), 1);
        s.dueFinding(x, "at(3, 0)", x.at(3, 0), 2);
        s.due("tear(3)", x.tear(3), 1);
    }

    private void rowIsNoughtAnew() {
        WhoSaysOne x = new WhoSaysOne();
        Check.fill(x, 2, 5, 6, 7);
        s.due("row(2, 2)", x.row(2, 2), 2);
        s.dueRow(x, 2, 0, 0);
        s.due("row(2, 4)", x.row(2, 4), 4);
        s.dueRow(x, 2, 0, 0, 0, 0);
        Check.fill(x, 2, 5, 6, 7);
        x.tear(2);
        s.due("row(2, 3)", x.row(2, 3), 3);
        s.dueRow(x, 2, 0, 0, 0);
    }

    private void rowAboveSixty() {
        WhoSaysOne x = new WhoSaysOne();
        s.due("row(0, 61)", x.row(0, 61), -1);
        s.due("row(0, MAX)", x.row(0, MAX), -1);
        s.due("count(6)", x.count(6), 0);
        s.due("finding()", x.finding(), 0);
        Check.fill(x, 0, 9);
        s.due("row(0, 61)", x.row(0, 61), -1);
        s.dueRow(x, 0, 9);
    }

    private void rowOfNoNumber() {
        WhoSaysOne x = new WhoSaysOne();
        for (int r : NO_ROW) {
            s.due("row(" + r + ", 1)", x.row(r, 1), -1);
            s.due("BAD ahead of SIZE: row(" + r + ", -1)", x.row(r, -1), -1);
        }
        s.due("finding()", x.finding(), 0);
        s.due("count(6)", x.count(6), 0);
    }

    private void rowBelowNone() {
        WhoSaysOne x = new WhoSaysOne();
        s.dueFinding(x, "row(0, -1)", x.row(0, -1), 5);
        s.dueFinding(x, "row(5, MIN)", x.row(5, MIN), 5);
        s.due("count(6)", x.count(6), 0);
        Check.fill(x, 0, 9);
        s.dueFinding(x, "row(0, -1)", x.row(0, -1), 5);
        s.dueRow(x, 0, 9);
    }

    // ---- promises 3 to 5

    private void lay() {
        WhoSaysOne x = new WhoSaysOne();
        x.row(1, 3);
        s.dueAsked(x, "lay(1, 1, MAX)", x.lay(1, 1, MAX), 1, 0);
        s.dueAsked(x, "lay(1, 1, MIN)", x.lay(1, 1, MIN), 1, MAX);
        s.dueAsked(x, "lay(1, 1, -9)", x.lay(1, 1, -9), 1, MIN);
        s.dueRow(x, 1, 0, -9, 0);
    }

    private void layAtTheEnds() {
        WhoSaysOne x = new WhoSaysOne();
        for (int r = 0; r < 6; r++) {
            x.row(r, 60);
            s.dueAsked(x, "lay(" + r + ", 0, 4)", x.lay(r, 0, 4), 1, 0);
            s.dueAsked(x, "lay(" + r + ", 59, 5)", x.lay(r, 59, 5), 1, 0);
            s.dueAsked(x, "at(" + r + ", 0)", x.at(r, 0), 1, 4);
            s.dueAsked(x, "at(" + r + ", 59)", x.at(r, 59), 1, 5);
        }
    }

    private void layBad() {
        WhoSaysOne x = new WhoSaysOne();
        for (int r : NO_ROW) {
            s.due("lay(" + r + ", -1, 1)", x.lay(r, -1, 1), -1);
        }
        s.due("finding()", x.finding(), 0);
    }

    private void layNothing() {
        WhoSaysOne x = new WhoSaysOne();
        for (int r = 0; r < 6; r++) {
            s.dueFinding(x, "lay(" + r + ", 0, 1)", x.lay(r, 0, 1), 1);
            s.dueFinding(x, "NOTHING ahead of BEYOND: lay(" + r + ", -1, 1)", x.lay(r, -1, 1), 1);
        }
    }

    private void layBeyond() {
        WhoSaysOne x = new WhoSaysOne();
        Check.fill(x, 0, 7, 8);
        for (int i : new int[] {-1, 2, 59, 60, MIN, MAX}) {
            s.dueFinding(x, "lay(0, " + i + ", 1)", x.lay(0, i, 1), 2);
        }
        s.dueRow(x, 0, 7, 8);
        x.row(1, 0);
        s.dueFinding(x, "of an empty one: lay(1, 0, 1)", x.lay(1, 0, 1), 2);
    }

    private void at() {
        WhoSaysOne x = new WhoSaysOne();
        Check.fill(x, 5, MIN, -1, MAX);
        s.dueAsked(x, "at(5, 0)", x.at(5, 0), 1, MIN);
        s.dueAsked(x, "at(5, 1)", x.at(5, 1), 1, -1);
        s.dueAsked(x, "at(5, 2)", x.at(5, 2), 1, MAX);
    }

    private void atBad() {
        WhoSaysOne x = new WhoSaysOne();
        for (int r : NO_ROW) {
            s.due("at(" + r + ", -1)", x.at(r, -1), -1);
        }
        s.due("finding()", x.finding(), 0);
    }

    private void atNothing() {
        WhoSaysOne x = new WhoSaysOne();
        s.dueFinding(x, "at(0, 0)", x.at(0, 0), 1);
        s.dueFinding(x, "NOTHING ahead of BEYOND: at(5, 60)", x.at(5, 60), 1);
        x.row(5, 1);
        x.tear(5);
        s.dueFinding(x, "torn: at(5, 0)", x.at(5, 0), 1);
    }

    private void atBeyond() {
        WhoSaysOne x = new WhoSaysOne();
        x.row(4, 60);
        for (int i : new int[] {-1, 60, MIN, MAX}) {
            s.dueFinding(x, "at(4, " + i + ")", x.at(4, i), 2);
        }
        x.row(4, 0);
        s.dueFinding(x, "of an empty one: at(4, 0)", x.at(4, 0), 2);
    }

    private void tear() {
        WhoSaysOne x = new WhoSaysOne();
        for (int r = 0; r < 6; r++) {
            x.row(r, r * 12);
        }
        for (int r = 0; r < 6; r++) {
            s.due("tear(" + r + ")", x.tear(r), 1);
            s.due("count(6)", x.count(6), 5 - r);
        }
    }

    private void tearBad() {
        WhoSaysOne x = new WhoSaysOne();
        for (int r : NO_ROW) {
            s.due("tear(" + r + ")", x.tear(r), -1);
        }
        s.due("finding()", x.finding(), 0);
    }

    private void tearNothing() {
        WhoSaysOne x = new WhoSaysOne();
        s.dueFinding(x, "tear(0)", x.tear(0), 1);
        x.row(5, 0);
        x.tear(5);
        s.dueFinding(x, "tear(5) again", x.tear(5), 1);
        s.due("findings(1)", x.findings(1), 2);
    }

    // ---- promise 6

    private void copy() {
        WhoSaysOne x = new WhoSaysOne();
        Check.fill(x, 0, 1, 2, 3, 4, 5);
        Check.fill(x, 5, 9, 9, 9);
        s.due("copy(0, 1, 5, 0, 2)", x.copy(0, 1, 5, 0, 2), 1);
        s.dueRow(x, 5, 2, 3, 9);
        s.due("up to both ends: copy(0, 2, 5, 0, 3)", x.copy(0, 2, 5, 0, 3), 1);
        s.dueRow(x, 5, 3, 4, 5);
        s.dueRow(x, 0, 1, 2, 3, 4, 5);
        s.due("copy(5, 0, 0, 4, 1)", x.copy(5, 0, 0, 4, 1), 1);
        s.dueRow(x, 0, 1, 2, 3, 4, 3);
        x.row(1, 60);
        x.row(2, 60);
        x.lay(1, 59, 7);
        s.due("all of sixty", x.copy(1, 0, 2, 0, 60), 1);
        s.dueAsked(x, "at(2, 59)", x.at(2, 59), 1, 7);
    }

    private void copyUpInItself() {
        WhoSaysOne x = new WhoSaysOne();
        Check.fill(x, 0, 1, 2, 3, 4, 5);
        s.due("copy(0, 0, 0, 1, 4)", x.copy(0, 0, 0, 1, 4), 1);
        s.dueRow(x, 0, 1, 1, 2, 3, 4);
        s.due("all of it to itself", x.copy(0, 0, 0, 0, 5), 1);
        s.dueRow(x, 0, 1, 1, 2, 3, 4);
    }

    private void copyDownInItself() {
        WhoSaysOne x = new WhoSaysOne();
        Check.fill(x, 0, 1, 2, 3, 4, 5);
        s.due("copy(0, 1, 0, 0, 4)", x.copy(0, 1, 0, 0, 4), 1);
        s.dueRow(x, 0, 2, 3, 4, 5, 5);
    }

    private void copyBad() {
        WhoSaysOne x = new WhoSaysOne();
        x.row(0, 3);
        for (int r : NO_ROW) {
            s.due("copy(" + r + ", 0, 0, 0, 1)", x.copy(r, 0, 0, 0, 1), -1);
            s.due("copy(0, 0, " + r + ", 0, 1)", x.copy(0, 0, r, 0, 1), -1);
        }
        s.due("finding()", x.finding(), 0);
    }

    private void copyBelowNone() {
        WhoSaysOne x = new WhoSaysOne();
        Check.fill(x, 0, 1, 2);
        s.dueFinding(x, "copy(0, 1, 0, 0, -1)", x.copy(0, 1, 0, 0, -1), 5);
        s.dueFinding(x, "copy(0, 1, 0, 0, MIN)", x.copy(0, 1, 0, 0, MIN), 5);
        s.dueRow(x, 0, 1, 2);
    }

    private void copyFromNothing() {
        WhoSaysOne x = new WhoSaysOne();
        x.row(0, 3);
        s.dueFinding(x, "copy(1, 0, 0, 0, 0)", x.copy(1, 0, 0, 0, 0), 1);
        s.dueFinding(x, "copy(1, 0, 0, 0, 1)", x.copy(1, 0, 0, 0, 1), 1);
    }

    private void copyToNothing() {
        WhoSaysOne x = new WhoSaysOne();
        x.row(0, 3);
        s.dueFinding(x, "copy(0, 0, 5, 0, 0)", x.copy(0, 0, 5, 0, 0), 1);
        s.dueFinding(x, "copy(0, 0, 5, 0, 1)", x.copy(0, 0, 5, 0, 1), 1);
        s.dueFinding(x, "neither is there", x.copy(4, 0, 5, 0, 1), 1);
        s.due("findings(1)", x.findings(1), 3);
    }

    private void copyTooManyFrom() {
        WhoSaysOne x = new WhoSaysOne();
        Check.fill(x, 0, 1, 2, 3);
        x.row(1, 10);
        s.dueFinding(x, "copy(0, 0, 1, 0, 4)", x.copy(0, 0, 1, 0, 4), 2);
        s.dueFinding(x, "copy(0, 1, 1, 0, 3)", x.copy(0, 1, 1, 0, 3), 2);
        s.dueFinding(x, "copy(0, 3, 1, 0, 1)", x.copy(0, 3, 1, 0, 1), 2);
        s.dueFinding(x, "copy(0, -1, 1, 0, 2)", x.copy(0, -1, 1, 0, 2), 2);
        s.dueFinding(x, "i and n above all ints", x.copy(0, 3, 1, 0, MAX), 2);
        s.dueFinding(x, "i and n above all ints", x.copy(0, MAX, 1, 0, 1), 2);
        s.dueFinding(x, "i and n above all ints", x.copy(0, MAX, 1, 0, MAX), 2);
        s.dueRow(x, 1, 0, 0, 0, 0, 0, 0, 0, 0, 0, 0);
    }

    private void copyTooManyTo() {
        WhoSaysOne x = new WhoSaysOne();
        Check.fill(x, 0, 1, 2, 3);
        x.row(1, 10);
        s.dueFinding(x, "copy(1, 0, 0, 0, 4)", x.copy(1, 0, 0, 0, 4), 2);
        s.dueFinding(x, "copy(1, 0, 0, 1, 3)", x.copy(1, 0, 0, 1, 3), 2);
        s.dueFinding(x, "copy(1, 0, 0, 3, 1)", x.copy(1, 0, 0, 3, 1), 2);
        s.dueFinding(x, "copy(1, 0, 0, -1, 2)", x.copy(1, 0, 0, -1, 2), 2);
        s.dueFinding(x, "copy(1, 0, 0, MIN, 2)", x.copy(1, 0, 0, MIN, 2), 2);
        s.dueFinding(x, "j and n above all ints", x.copy(1, 0, 0, MAX, 1), 2);
        s.dueRow(x, 0, 1, 2, 3);
    }

    private void copyNoneFromBelow() {
        WhoSaysOne x = new WhoSaysOne();
        x.row(0, 3);
        x.row(1, 0);
        s.dueFinding(x, "copy(0, -1, 1, 0, 0)", x.copy(0, -1, 1, 0, 0), 2);
        s.dueFinding(x, "copy(0, 0, 1, -1, 0)", x.copy(0, 0, 1, -1, 0), 2);
        s.dueFinding(x, "copy(0, MIN, 1, 0, 0)", x.copy(0, MIN, 1, 0, 0), 2);
    }

    private void copyNoneFromAbove() {
        WhoSaysOne x = new WhoSaysOne();
        x.row(0, 3);
        x.row(1, 0);
        s.dueFinding(x, "copy(0, 4, 1, 0, 0)", x.copy(0, 4, 1, 0, 0), 2);
        s.dueFinding(x, "copy(0, 3, 1, 1, 0)", x.copy(0, 3, 1, 1, 0), 2);
        s.dueFinding(x, "copy(0, 0, 0, MAX, 0)", x.copy(0, 0, 0, MAX, 0), 2);
    }

    private void copyNoneAtTheEnd() {
        WhoSaysOne x = new WhoSaysOne();
        Check.fill(x, 0, 1, 2, 3);
        x.row(1, 0);
        s.due("copy(0, 3, 1, 0, 0)", x.copy(0, 3, 1, 0, 0), 1);
        s.due("copy(1, 0, 0, 3, 0)", x.copy(1, 0, 0, 3, 0), 1);
        s.due("of two empty ones", x.copy(1, 0, 1, 0, 0), 1);
        x.row(2, 60);
        s.due("copy(2, 60, 2, 60, 0)", x.copy(2, 60, 2, 60, 0), 1);
        s.due("finding()", x.finding(), 0);
        s.dueRow(x, 0, 1, 2, 3);
    }

    private void copyOrder() {
        WhoSaysOne x = new WhoSaysOne();
        x.row(0, 3);
        s.due("BAD ahead of SIZE", x.copy(6, 0, 0, 0, -1), -1);
        s.due("BAD ahead of SIZE", x.copy(5, 0, 6, 0, -1), -1);
        s.due("BAD ahead of NOTHING", x.copy(5, 9, -1, 9, 1), -1);
        s.due("finding()", x.finding(), 0);
        s.dueFinding(x, "SIZE ahead of NOTHING", x.copy(5, 9, 4, 9, -1), 5);
        s.dueFinding(x, "SIZE ahead of BEYOND", x.copy(0, 9, 0, 9, -1), 5);
        s.dueFinding(x, "NOTHING ahead of BEYOND", x.copy(0, 9, 5, 9, 1), 1);
        s.dueFinding(x, "NOTHING ahead of BEYOND", x.copy(5, 0, 0, 9, 1), 1);
    }

    // ---- promise 7

    private void mean() {
        WhoSaysOne x = new WhoSaysOne();
        Check.fill(x, 3, 4, 6, 8);
        s.dueAsked(x, "mean(3)", x.mean(3), 1, 6);
        Check.fill(x, 0, -5);
        s.dueAsked(x, "of one", x.mean(0), 1, -5);
    }

    private void meanCut() {
        WhoSaysOne x = new WhoSaysOne();
        Check.fill(x, 0, 3, 4);
        s.dueAsked(x, "of 3, 4", x.mean(0), 1, 3);
        Check.fill(x, 0, -3, -4);
        s.dueAsked(x, "of -3, -4", x.mean(0), 1, -3);
        Check.fill(x, 0, 0, 0, -2);
        s.dueAsked(x, "of 0, 0, -2", x.mean(0), 1, 0);
        Check.fill(x, 0, 0, 0, 2);
        s.dueAsked(x, "of 0, 0, 2", x.mean(0), 1, 0);
    }

    private void meanOfGreatInts() {
        WhoSaysOne x = new WhoSaysOne();
        x.row(0, 60);
        x.row(1, 60);
        for (int i = 0; i < 60; i++) {
            x.lay(0, i, MAX);
            x.lay(1, i, MIN);
        }
        s.dueAsked(x, "sixty times MAX", x.mean(0), 1, MAX);
        s.dueAsked(x, "sixty times MIN", x.mean(1), 1, MIN);
    }

    private void meanBad() {
        WhoSaysOne x = new WhoSaysOne();
        for (int r : NO_ROW) {
            s.due("mean(" + r + ")", x.mean(r), -1);
        }
        s.due("finding()", x.finding(), 0);
    }

    private void meanNothing() {
        WhoSaysOne x = new WhoSaysOne();
        for (int r = 0; r < 6; r++) {
            s.dueFinding(x, "mean(" + r + ")", x.mean(r), 1);
        }
    }

    private void meanNought() {
        WhoSaysOne x = new WhoSaysOne();
        Check.fill(x, 0, 8);
        x.mean(0);
        x.row(5, 0);
        s.dueFinding(x, "mean(5)", x.mean(5), 4);
        s.due("asked() stays", x.asked(), 8);
    }

    // ---- promises 8 and 9

    private void textIsThere() {
        WhoSaysOne x = new WhoSaysOne();
        for (int t = 0; t < 4; t++) {
            s.due("text(" + t + ", 60)", x.text(t, 60), 60);
            s.due("count(7)", x.count(7), t + 1);
            s.due("put(" + t + ", 59, 1)", x.put(t, 59, 1), 1032);
            s.dueFinding(x, "put(" + t + ", 60, 1)", x.put(t, 60, 1), 2);
        }
    }

    private void textOfNone() {
        WhoSaysOne x = new WhoSaysOne();
        s.due("text(3, 0)", x.text(3, 0), 0);
        s.due("count(7)", x.count(7), 1);
        s.dueFinding(x, "put(3, 0, 1)", x.put(3, 0, 1), 2);
        s.due("fault(3)", x.fault(3), -9);
    }

    private void textIsBlankAnew() {
        WhoSaysOne x = new WhoSaysOne();
        Check.write(x, 0, "ps");
        x.text(0, 1);
        s.due("text(0, 2)", x.text(0, 2), 2);
        s.due("put(0, 0, 1)", x.put(0, 0, 1), 1032);
        s.due("put(0, 1, 1)", x.put(0, 1, 1), 1032);
    }

    private void textAboveSixty() {
        WhoSaysOne x = new WhoSaysOne();
        s.due("text(0, 61)", x.text(0, 61), -1);
        s.due("text(0, MAX)", x.text(0, MAX), -1);
        s.due("count(7)", x.count(7), 0);
        s.due("finding()", x.finding(), 0);
    }

    private void textOfNoNumber() {
        WhoSaysOne x = new WhoSaysOne();
        for (int t : NO_TEXT) {
            s.due("text(" + t + ", 1)", x.text(t, 1), -1);
            s.due("BAD ahead of SIZE: text(" + t + ", -1)", x.text(t, -1), -1);
        }
        s.due("finding()", x.finding(), 0);
    }

    private void textBelowNone() {
        WhoSaysOne x = new WhoSaysOne();
        s.dueFinding(x, "text(0, -1)", x.text(0, -1), 5);
        s.dueFinding(x, "text(3, MIN)", x.text(3, MIN), 5);
        s.due("count(7)", x.count(7), 0);
        Check.write(x, 0, "x");
        s.dueFinding(x, "text(0, -1)", x.text(0, -1), 5);
        s.due("the TEXT stays", x.put(0, 0, 1), 1120);
    }

    private void put() {
        WhoSaysOne x = new WhoSaysOne();
        x.text(2, 3);
        x.put(2, 1, 115);
        s.due("fault(2): none", x.fault(2), -9);
        s.due("game(2)", x.game(2), 0);
        s.due("player(0)", x.player(0), 1);
        x.put(2, 1, 120);
        s.due("fault(2): x", x.fault(2), 1);
    }

    private void putCut() {
        WhoSaysOne x = new WhoSaysOne();
        x.text(0, 1);
        int[] given = {127, 128, 255, 256, 321, -128, -129, MAX, MIN, 112 - 512};
        int[] cut = {127, -128, -1, 0, 65, -128, 127, -1, 0, 112};
        for (int i = 0; i < given.length; i++) {
            x.put(0, 0, given[i]);
            s.due("what put(0, 0, " + given[i] + ") left", x.put(0, 0, 32), 1000 + cut[i]);
        }
        x.put(0, 0, 112 - 512);
        s.due("a letter is told by a cut number, too", x.fault(0), -9);
    }

    private void putTellsWhatWas() {
        WhoSaysOne x = new WhoSaysOne();
        x.text(3, 60);
        s.due("put(3, 0, -128)", x.put(3, 0, -128), 1032);
        s.due("put(3, 0, 127)", x.put(3, 0, 127), 872);
        s.due("put(3, 0, 0)", x.put(3, 0, 0), 1127);
        s.due("put(3, 0, 0)", x.put(3, 0, 0), 1000);
        s.due("put(3, 59, 9)", x.put(3, 59, 9), 1032);
        s.due("asked() is not told", x.asked(), 0);
    }

    private void putBad() {
        WhoSaysOne x = new WhoSaysOne();
        for (int t : NO_TEXT) {
            s.due("put(" + t + ", -1, 0)", x.put(t, -1, 0), -1);
        }
        s.due("finding()", x.finding(), 0);
    }

    private void putNothing() {
        WhoSaysOne x = new WhoSaysOne();
        for (int t = 0; t < 4; t++) {
            s.dueFinding(x, "put(" + t + ", 0, 0)", x.put(t, 0, 0), 1);
            s.dueFinding(x, "NOTHING ahead of BEYOND: put(" + t + ", -1, 0)", x.put(t, -1, 0), 1);
        }
    }

    private void putBeyond() {
        WhoSaysOne x = new WhoSaysOne();
        x.text(1, 2);
        for (int i : new int[] {-1, 2, 59, 60, MIN, MAX}) {
            s.dueFinding(x, "put(1, " + i + ", 0)", x.put(1, i, 0), 2);
        }
        x.text(1, 0);
        s.dueFinding(x, "of an empty one: put(1, 0, 0)", x.put(1, 0, 0), 2);
    }
}
