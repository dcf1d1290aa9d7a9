/** Sentences of promises 22 to 31: what can be had, and what can't. */
final class SumBounds {
    private static final int MAX = Integer.MAX_VALUE, MIN = Integer.MIN_VALUE;
    private static final int[] NO_ROW = {-1, 6, MIN, MAX};

    private final Sentences s;

    SumBounds(Sentences s) {
        this.s = s;
    }

    void all() {
        waysOfHaving();
        s.test(25, "GAPS, rising", this::gapsRising);
        s.test(25, "60 at most, come to a ROW", this::gapsSixtyAtMost);
        s.test(25, "(anew)", this::gapsAnew);
        s.test(25, "how many there are in all", this::gapsNone);
        s.test(25, "BAD", this::gapsBad);
        s.test(25, "NOUGHT: without end", this::gapsWithoutEnd);
        s.test(26, "The greatest GAP", this::greatest);
        s.test(26, "(0: there is none)", this::greatestOfNone);
        s.test(26, "how many GAPS by asked()", this::greatestHowMany);
        s.test(26, "NOUGHT: without end", this::greatestWithoutEnd);
        s.test(27, "For rest i (0 .. m less 1) modulo m (2 .. 60) by LAW 0 the least HAD number", this::rest);
        s.test(27, "(above 0) with that rest", this::restOfNought);
        s.test(27, "the least HAD number", this::restFarOff);
        s.test(27, "NONE: there is none.", this::restNone);
        s.test(27, "BAD", this::restBad);
        s.test(27, "STATE: another LAW", this::restByAnotherLaw);
        s.test(28, "SAID numbers (bits, by their places) that are NEEDED: not HAD by the others that were SAID",
                this::needed);
        s.test(28, "not HAD by the others", this::neededByEachLaw);
        s.test(28, "SAID numbers", this::neededOfFewAndMany);
        s.test(28, "how many by asked()", this::neededHowMany);
        s.test(29, "What all that were SAID have in common: the greatest number that divides each", this::common);
        s.test(29, "(0: nothing was SAID)", this::commonOfNothing);
        s.test(30, "The least number v (1 .. 4000) from which on all are HAD", this::from);
        s.test(30, "(1 at least)", this::fromOne);
        s.test(30, "NONE: there is none such", this::fromNone);
        s.test(31, "One sort more: the least number 2 .. 60 that MAY be SAID, by which all from v (1 .. 4000) on are HAD",
                this::wish);
        s.test(31, "2 .. 60", this::wishAtTheEnds);
        s.test(31, "how many such there are by asked()", this::wishHowMany);
        s.test(31, "NONE: none", this::wishNone);
        s.test(31, "BAD", this::wishBad);
        s.test(31, "STATE: all from v on are HAD already", this::wishHadAlready);
        s.test(31, "or another LAW than 0", this::wishByAnotherLaw);
    }

    private void waysOfHaving() {
        s.test(22, "Whether v (1 .. 4000) is HAD: 1, 0", this::had);
        s.test(22, "by LAWS 0, 2 of how few SAID numbers", this::hadByHowFew);
        s.test(22, "(each counted as often as it is taken) it is the sum by asked()", this::hadCountedAsTaken);
        s.test(22, "(LAW 1, or not HAD: NONE)", this::hadNone);
        s.test(22, "v (1 .. 4000)", this::hadAtTheEnds);
        s.test(22, "BAD", this::hadBad);
        s.test(23, "By LAW 0 in how many ways v (1 .. 400) is a sum of SAID numbers", this::ways);
        s.test(23, "(as sets, without order)", this::waysWithoutOrder);
        s.test(23, "told by upper() (lower() is 1): 1.", this::waysTold);
        s.test(23, "v (1 .. 400)", this::waysAtTheEnds);
        s.test(23, "BAD", this::waysBad);
        s.test(23, "STATE: another LAW", this::waysByAnotherLaw);
        s.test(24, "Likewise by just k (1 .. 20) numbers in all", this::byJust);
        s.test(24, "(each counted as often as it is taken)", this::byJustCountedAsTaken);
        s.test(24, "k (1 .. 20)", this::byJustAtTheEnds);
        s.test(24, "Likewise", this::byJustTold);
        s.test(24, "BAD", this::byJustBad);
        s.test(24, "STATE", this::byJustByAnotherLaw);
    }

    private static WhoSaysOne withOne(String game) {
        WhoSaysOne x = Check.of(game);
        x.say(1);
        return x;
    }

    // ---- promise 22

    private void had() {
        WhoSaysOne x = Check.of("n6n9n20");
        int[] gaps = {1, 2, 3, 4, 5, 7, 8, 10, 11, 13, 14, 16, 17, 19, 22, 23, 25, 28, 31, 34, 37, 43};
        boolean[] isGap = new boolean[61];
        for (int gap : gaps) {
            isGap[gap] = true;
        }
        for (int v = 1; v <= 60; v++) {
            s.due("had(" + v + ")", x.had(v), isGap[v] ? 0 : 1);
        }
    }

    private void hadByHowFew() {
        WhoSaysOne x = Check.of("n6n9n20");
        s.dueAsked(x, "one of them", x.had(20), 1, 1);
        s.dueAsked(x, "20 + 9 + 9 + 6", x.had(44), 1, 4);
        s.dueAsked(x, "20 + 20 + 20", x.had(60), 1, 3);
        x = withOne("n4n3");
        s.dueAsked(x, "3 + 3, not 4 + 1 + 1", x.had(6), 1, 2);
        x = Check.of("l2n10n25");
        s.dueAsked(x, "25 + 25", x.had(50), 1, 2);
        s.dueAsked(x, "10 + 10 + 10", x.had(30), 1, 3);
        x = withOne("l2n4n3");
        s.dueAsked(x, "3 + 3, not 4 + 1 + 1", x.had(6), 1, 2);
    }

    private void hadCountedAsTaken() {
        WhoSaysOne x = Check.of("n7");
        s.dueAsked(x, "five times 7", x.had(35), 1, 5);
        x = Check.of("l2n7n60");
        s.dueAsked(x, "three times both", x.had(201), 1, 6);
    }

    private void hadNone() {
        WhoSaysOne x = Check.of("l1n12n20");
        s.dueAsked(x, "by LAW 1", x.had(4), 1, -9);
        s.dueAsked(x, "by LAW 1", x.had(12), 1, -9);
        s.dueAsked(x, "by LAW 1, not", x.had(6), 0, -9);
        x = Check.of("l1n4n9");
        s.dueAsked(x, "by LAW 1, 1 in common", x.had(1), 1, -9);
        s.dueAsked(x, "by LAW 1, 1 in common", x.had(3999), 1, -9);
        x = Check.of("n12n20");
        s.dueAsked(x, "by LAW 0, not", x.had(4), 0, -9);
        x = Check.of("l2n12n20");
        s.dueAsked(x, "by LAW 2, four times 12", x.had(48), 0, -9);
        for (int law = 0; law <= 2; law++) {
            x = Check.of("l" + law);
            s.dueAsked(x, "nothing SAID", x.had(60), 0, -9);
        }
    }

    private void hadAtTheEnds() {
        WhoSaysOne x = withOne("n2");
        s.dueAsked(x, "had(1)", x.had(1), 1, 1);
        s.dueAsked(x, "had(4000)", x.had(4000), 1, 2000);
        x = Check.of("n2");
        s.dueAsked(x, "had(1)", x.had(1), 0, -9);
        s.dueAsked(x, "had(3999)", x.had(3999), 0, -9);
        x = new WhoSaysOne();
        x.say(1);
        s.dueAsked(x, "had(4000) by 1 alone", x.had(4000), 1, 4000);
        x = Check.of("n60n59");
        s.dueAsked(x, "had(3421)", x.had(3421), 0, -9);
        s.dueAsked(x, "had(3422)", x.had(3422), 1, 58);
        x = Check.of("l1n40n50");
        s.dueAsked(x, "by LAW 1: had(4000)", x.had(4000), 1, -9);
        s.dueAsked(x, "by LAW 1: had(3999)", x.had(3999), 0, -9);
        x = Check.of("l2 n60n59n58n57n56n55n54n53n52n51n50n49");
        x.say(1);
        s.dueAsked(x, "by LAW 2 all three times", x.had(3 * 655), 1, 39);
        s.dueAsked(x, "by LAW 2 one more", x.had(3 * 655 + 1), 0, -9);
    }

    private void hadBad() {
        WhoSaysOne x = Check.of("n6");
        x.had(12);
        for (int v : new int[] {0, 4001, -1, MIN, MAX}) {
            s.dueAsked(x, "had(" + v + ")", x.had(v), -1, 2);
        }
        s.due("by LAW 1", Check.of("l1n6").had(0), -1);
        s.due("finding()", x.finding(), 0);
    }

    // ---- promises 23 and 24

    private void ways() {
        WhoSaysOne x = Check.of("n50n25n10n5");
        s.dueFraction(x, "ways(100)", x.ways(100), 1, 40, 1);
        x.say(1);
        s.dueFraction(x, "ways(100) with 1", x.ways(100), 1, 292, 1);
        x = Check.of("n5n7");
        s.dueFraction(x, "ways(23), a GAP", x.ways(23), 1, 0, 1);
    }

    private void waysWithoutOrder() {
        WhoSaysOne x = Check.of("n3n2");
        s.dueFraction(x, "2 + 3 alone", x.ways(5), 1, 1, 1);
        x.say(1);
        s.dueFraction(x, "1 + 1 + 1, 1 + 2, 3", x.ways(3), 1, 3, 1);
    }

    private void waysTold() {
        WhoSaysOne x = Check.of("n4n5");
        x.share();
        s.due("lower() was 6", x.lower(), 6);
        s.dueFraction(x, "ways(20)", x.ways(20), 1, 2, 1);
        x.undo(0);
        s.dueFraction(x, "nothing SAID", x.ways(7), 1, 0, 1);
    }

    private void waysAtTheEnds() {
        WhoSaysOne x = withOne("n3n2");
        s.dueFraction(x, "ways(1)", x.ways(1), 1, 1, 1);
        s.dueFraction(x, "ways(400)", x.ways(400), 1, 13534, 1);
        s.dueFraction(x, "ways(399)", x.ways(399), 1, 13467, 1);
        x = Check.of("n2");
        s.dueFraction(x, "ways(1)", x.ways(1), 1, 0, 1);
        s.dueFraction(x, "ways(400)", x.ways(400), 1, 1, 1);
    }

    private void waysBad() {
        WhoSaysOne x = Check.of("n5n7");
        x.ways(35);
        for (int v : new int[] {0, 401, -1, MIN, MAX}) {
            s.dueFraction(x, "ways(" + v + ")", x.ways(v), -1, 2, 1);
        }
        s.due("finding()", x.finding(), 0);
    }

    private void waysByAnotherLaw() {
        for (int law = 1; law <= 2; law++) {
            WhoSaysOne x = Check.of("l" + law + "n5");
            s.dueFraction(x, "ways(5)", x.ways(5), -4, 0, 1);
            s.due("BAD ahead of STATE: ways(0)", x.ways(0), -1);
            s.due("BAD ahead of STATE: ways(401)", x.ways(401), -1);
            s.due("finding()", x.finding(), 0);
        }
    }

    private void byJust() {
        WhoSaysOne x = Check.of("n4n3n2");
        int[] want = {0, 0, 1, 3, 2, 1, 0, 0, 0, 0, 0, 0, 0, 0, 0, 0, 0, 0, 0, 0};
        long sum = 0;
        for (int k = 1; k <= 20; k++) {
            s.dueFraction(x, "byJust(12, " + k + ")", x.byJust(12, k), 1, want[k - 1], 1);
            sum += x.upper();
        }
        s.dueFraction(x, "all of them: ways(12)", x.ways(12), 1, sum, 1);
    }

    private void byJustCountedAsTaken() {
        WhoSaysOne x = Check.of("n5n7");
        s.dueFraction(x, "five times 7: byJust(35, 5)", x.byJust(35, 5), 1, 1, 1);
        s.dueFraction(x, "seven times 5: byJust(35, 7)", x.byJust(35, 7), 1, 1, 1);
        s.dueFraction(x, "byJust(35, 1)", x.byJust(35, 1), 1, 0, 1);
        s.dueFraction(x, "7 alone: byJust(7, 1)", x.byJust(7, 1), 1, 1, 1);
    }

    private void byJustAtTheEnds() {
        WhoSaysOne x = Check.of("n20");
        s.dueFraction(x, "byJust(400, 20)", x.byJust(400, 20), 1, 1, 1);
        s.dueFraction(x, "byJust(400, 19)", x.byJust(400, 19), 1, 0, 1);
        x.say(1);
        s.dueFraction(x, "byJust(1, 1)", x.byJust(1, 1), 1, 1, 1);
        s.dueFraction(x, "byJust(20, 20)", x.byJust(20, 20), 1, 1, 1);
        s.dueFraction(x, "byJust(39, 20)", x.byJust(39, 20), 1, 1, 1);
        s.dueFraction(x, "byJust(400, 1)", x.byJust(400, 1), 1, 0, 1);
    }

    private void byJustTold() {
        WhoSaysOne x = Check.of("n4n5");
        x.share();
        s.due("lower() was 6", x.lower(), 6);
        s.dueFraction(x, "byJust(20, 4)", x.byJust(20, 4), 1, 1, 1);
        x.undo(0);
        s.dueFraction(x, "nothing SAID", x.byJust(7, 1), 1, 0, 1);
    }

    private void byJustBad() {
        WhoSaysOne x = Check.of("n5n7");
        x.ways(35);
        for (int v : new int[] {0, 401, -1, MIN, MAX}) {
            s.dueFraction(x, "byJust(" + v + ", 1)", x.byJust(v, 1), -1, 2, 1);
        }
        for (int k : new int[] {0, 21, -1, MIN, MAX}) {
            s.dueFraction(x, "byJust(5, " + k + ")", x.byJust(5, k), -1, 2, 1);
        }
        s.due("finding()", x.finding(), 0);
    }

    private void byJustByAnotherLaw() {
        for (int law = 1; law <= 2; law++) {
            WhoSaysOne x = Check.of("l" + law + "n5");
            s.dueFraction(x, "byJust(5, 1)", x.byJust(5, 1), -4, 0, 1);
            s.due("BAD ahead of STATE: byJust(0, 1)", x.byJust(0, 1), -1);
            s.due("BAD ahead of STATE: byJust(5, 21)", x.byJust(5, 21), -1);
            s.due("finding()", x.finding(), 0);
        }
    }

    // ---- promises 25 and 26

    private void gapsRising() {
        WhoSaysOne x = Check.of("n9n5n7");
        s.due("gaps(5)", x.gaps(5), 8);
        s.dueRow(x, 5, 1, 2, 3, 4, 6, 8, 11, 13);
        s.due("asked() is not told", Check.of("n5n7").gaps(0), 12);
    }

    private void gapsSixtyAtMost() {
        WhoSaysOne x = Check.of("n4n41");
        s.due("sixty: gaps(0)", x.gaps(0), 60);
        s.dueAsked(x, "at(0, 59)", x.at(0, 59), 1, 119);
        s.dueFinding(x, "at(0, 60)", x.at(0, 60), 2);
        x = Check.of("n4n43");
        s.due("63: gaps(0)", x.gaps(0), 63);
        s.dueAsked(x, "at(0, 59)", x.at(0, 59), 1, 113);
        s.dueFinding(x, "at(0, 60)", x.at(0, 60), 2);
        x = Check.of("n60n59");
        s.due("1711: gaps(1)", x.gaps(1), 1711);
        s.dueAsked(x, "at(1, 59)", x.at(1, 59), 1, 62);
        x = Check.of("n3n59");
        s.due("58: gaps(1)", x.gaps(1), 58);
        s.dueAsked(x, "at(1, 57)", x.at(1, 57), 1, 115);
        s.dueFinding(x, "at(1, 58)", x.at(1, 58), 2);
    }

    private void gapsAnew() {
        WhoSaysOne x = Check.of("n2n5");
        Check.fill(x, 0, 9, 9, 9, 9, 9);
        s.due("over a longer ROW: gaps(0)", x.gaps(0), 2);
        s.dueRow(x, 0, 1, 3);
        s.due("to one that is missing: gaps(4)", x.gaps(4), 2);
        s.dueRow(x, 4, 1, 3);
        s.due("count(6)", x.count(6), 2);
    }

    private void gapsNone() {
        WhoSaysOne x = withOne("n8");
        Check.fill(x, 0, 9, 9);
        s.due("1 was SAID: gaps(0)", x.gaps(0), 0);
        s.dueRow(x, 0);
        x = Check.of("l1n4n9");
        s.due("by LAW 1, 1 in common: gaps(3)", x.gaps(3), 0);
        s.dueRow(x, 3);
        s.due("1 alone: gaps(0)", Check.of("n3n2").gaps(0), 1);
    }

    private void gapsBad() {
        WhoSaysOne x = Check.of("n4");
        for (int r : NO_ROW) {
            s.due("BAD ahead of NOUGHT: gaps(" + r + ")", x.gaps(r), -1);
        }
        s.due("finding()", x.finding(), 0);
    }

    private void gapsWithoutEnd() {
        for (String game : new String[] {"", "n60", "n4n6", "n60n40n30", "l1n4n6", "l1", "l2", "l2n2n3", "l2n5n4n3n2"}) {
            WhoSaysOne x = Check.of(game);
            Check.fill(x, 0, 9, 8);
            s.dueFinding(x, "gaps(0) of " + game, x.gaps(0), 4);
            s.dueRow(x, 0, 9, 8);
            s.dueFinding(x, "gaps(1) of " + game, x.gaps(1), 4);
            s.due("count(6)", x.count(6), 1);
        }
        WhoSaysOne x = withOne("l2n2");
        s.dueFinding(x, "gaps(0) by LAW 2 behind 1", x.gaps(0), 4);
    }

    private void greatest() {
        s.due("of n6n9n20", Check.of("n6n9n20").greatest(), 43);
        s.due("of n60n59", Check.of("n60n59").greatest(), 3421);
        s.due("of n2n3", Check.of("n2n3").greatest(), 1);
        s.due("of n59n2", Check.of("n59n2").greatest(), 57);
        s.due("of n20n15n6", Check.of("n20n15n6").greatest(), 49);
        s.due("of n30n20n15n12", Check.of("n30n20n15n12").greatest(), 73);
        s.due("of n28n21n12", Check.of("n28n21n12").greatest(), 107);
    }

    private void greatestOfNone() {
        WhoSaysOne x = new WhoSaysOne();
        x.say(1);
        s.dueAsked(x, "1 alone", x.greatest(), 0, 0);
        x = withOne("n60n59");
        s.dueAsked(x, "1 behind others", x.greatest(), 0, 0);
        x = Check.of("l1n30n49");
        s.dueAsked(x, "by LAW 1", x.greatest(), 0, 0);
    }

    private void greatestHowMany() {
        WhoSaysOne x = Check.of("n6n9n20");
        s.dueAsked(x, "greatest()", x.greatest(), 43, 22);
        x = Check.of("n60n59");
        s.dueAsked(x, "greatest()", x.greatest(), 3421, 1711);
        x = Check.of("n2n3");
        s.dueAsked(x, "greatest()", x.greatest(), 1, 1);
    }

    private void greatestWithoutEnd() {
        for (String game : new String[] {"", "n60", "n8n12n18", "l1n4n6", "l1", "l2", "l2n2n3"}) {
            WhoSaysOne x = Check.of(game);
            s.dueFinding(x, "greatest() of " + game, x.greatest(), 4);
            s.due("asked() stays", x.asked(), 0);
        }
        WhoSaysOne x = withOne("l2n2");
        s.dueFinding(x, "greatest() by LAW 2 behind 1", x.greatest(), 4);
    }

    // ---- promises 27 to 29

    private void rest() {
        WhoSaysOne x = Check.of("n6n9n20");
        int[] modulo6 = {6, 49, 20, 9, 40, 29};
        for (int i = 0; i < 6; i++) {
            s.due("rest(6, " + i + ")", x.rest(6, i), modulo6[i]);
        }
        s.due("rest(2, 1)", x.rest(2, 1), 9);
        s.due("rest(2, 0)", x.rest(2, 0), 6);
        s.due("rest(60, 59)", x.rest(60, 59), 59);
        s.due("rest(60, 43)", x.rest(60, 43), 103);
        s.due("rest(60, 0)", x.rest(60, 0), 60);
    }

    private void restOfNought() {
        WhoSaysOne x = new WhoSaysOne();
        x.say(1);
        for (int m = 2; m <= 60; m++) {
            s.due("rest(" + m + ", 0)", x.rest(m, 0), m);
            s.due("rest(" + m + ", 1)", x.rest(m, 1), 1);
            s.due("rest(" + m + ", " + (m - 1) + ")", x.rest(m, m - 1), m - 1);
        }
        s.due("of n60: rest(60, 0)", Check.of("n60").rest(60, 0), 60);
        s.due("of n59: rest(60, 0)", Check.of("n59").rest(60, 0), 59 * 60);
    }

    private void restFarOff() {
        WhoSaysOne x = Check.of("n60");
        s.due("rest(59, 58)", x.rest(59, 58), 58 * 60);
        s.due("rest(59, 0)", x.rest(59, 0), 59 * 60);
        s.due("rest(59, 1)", x.rest(59, 1), 60);
        s.due("of n59: rest(60, 1)", Check.of("n59").rest(60, 1), 59 * 59);
    }

    private void restNone() {
        WhoSaysOne x = Check.of("n60");
        s.due("rest(60, 1)", x.rest(60, 1), -9);
        s.due("rest(60, 59)", x.rest(60, 59), -9);
        s.due("rest(2, 1)", x.rest(2, 1), -9);
        s.due("of n4n6: rest(4, 1)", Check.of("n4n6").rest(4, 1), -9);
        for (int i = 0; i < 7; i++) {
            s.due("nothing SAID: rest(7, " + i + ")", new WhoSaysOne().rest(7, i), -9);
        }
        s.due("finding()", x.finding(), 0);
    }

    private void restBad() {
        WhoSaysOne x = Check.of("n6n9n20");
        for (int m : new int[] {1, 0, -1, 61, MIN, MAX}) {
            s.due("rest(" + m + ", 0)", x.rest(m, 0), -1);
        }
        for (int i : new int[] {-1, 5, 6, MIN, MAX}) {
            s.due("rest(5, " + i + ")", x.rest(5, i), -1);
        }
        s.due("rest(60, 60)", x.rest(60, 60), -1);
        s.due("rest(2, 2)", x.rest(2, 2), -1);
        s.due("finding()", x.finding(), 0);
    }

    private void restByAnotherLaw() {
        for (int law = 1; law <= 2; law++) {
            WhoSaysOne x = Check.of("l" + law + "n5");
            s.due("rest(3, 1)", x.rest(3, 1), -4);
            s.due("nothing SAID", Check.of("l" + law).rest(3, 1), -4);
            s.due("BAD ahead of STATE: rest(3, 3)", x.rest(3, 3), -1);
            s.due("finding()", x.finding(), 0);
        }
    }

    private void needed() {
        WhoSaysOne x = Check.of("n10n15n5n4");
        s.due("4 and 5", x.needed(), 12);
        s.due("both", Check.of("n5n4").needed(), 3);
        s.due("1 makes all", withOne("n7n5").needed(), 4);
        s.due("9 is 4 + 5", Check.of("n9n5n4").needed(), 6);
    }

    private void neededByEachLaw() {
        s.due("LAW 1: 12 of 8, 6; none without it", Check.of("l1n12n8n6").needed(), 6);
        s.due("LAW 1: each of the two others", Check.of("l1n30n42n10").needed(), 6);
        s.due("LAW 1: each pair makes 5, but 30", Check.of("l1n30n20n45").needed(), 6);
        s.due("LAW 2: 20 is no three times 5", Check.of("l2n20n5").needed(), 3);
        s.due("LAW 2: 15 is three times 5", Check.of("l2n15n5").needed(), 2);
        s.due("LAW 0: 20 is four times 5", Check.of("n20n5").needed(), 2);
    }

    private void neededOfFewAndMany() {
        WhoSaysOne x = new WhoSaysOne();
        s.dueAsked(x, "nothing SAID", x.needed(), 0, 0);
        for (int law = 0; law <= 2; law++) {
            x = Check.of("l" + law + "n60");
            s.dueAsked(x, "one alone by LAW " + law, x.needed(), 1, 1);
        }
        x = Check.of("n60n59n58n57n56n55n54n53n52n51n50n49");
        s.dueAsked(x, "twelve", x.needed(), 4095, 12);
        x.say(1);
        s.dueAsked(x, "thirteen", x.needed(), 4096, 1);
        x = Check.of("l2n60n59n58n57n56n55n54n53n52n51n50n45");
        x.say(1);
        s.dueAsked(x, "thirteen by LAW 2", x.needed(), 4096 + 2048 + 1024, 3);
    }

    private void neededHowMany() {
        WhoSaysOne x = Check.of("n10n15n5n4");
        s.dueAsked(x, "needed()", x.needed(), 12, 2);
        x = withOne("n7n5");
        s.dueAsked(x, "needed()", x.needed(), 4, 1);
    }

    private void common() {
        for (int law = 0; law <= 2; law++) {
            s.due("one", Check.of("l" + law + "n42").common(), 42);
            s.due("two", Check.of("l" + law + "n42n28").common(), 14);
            s.due("three", Check.of("l" + law + "n42n28n6").common(), 2);
            s.due("none but 1", Check.of("l" + law + "n42n25").common(), 1);
            s.due("1", withOne("l" + law + "n42").common(), 1);
        }
    }

    private void commonOfNothing() {
        for (int law = 0; law <= 2; law++) {
            s.due("by LAW " + law, Check.of("l" + law).common(), 0);
        }
        WhoSaysOne x = Check.of("n42");
        x.undo(0);
        s.due("taken back", x.common(), 0);
    }

    // ---- promises 30 and 31

    private void from() {
        s.due("of n6n9n20", Check.of("n6n9n20").from(), 44);
        s.due("of n60n59", Check.of("n60n59").from(), 3422);
        s.due("of n2n3", Check.of("n2n3").from(), 2);
    }

    private void fromOne() {
        s.due("1 behind others", withOne("n60n59").from(), 1);
        s.due("1 alone", withOne("").from(), 1);
        s.due("by LAW 1", Check.of("l1n6n9n4").from(), 1);
        s.due("by LAW 1, 1", withOne("l1").from(), 1);
    }

    private void fromNone() {
        for (String game : new String[] {"", "n60", "n6n9", "l1", "l1n6n9", "l2", "l2n2n3"}) {
            WhoSaysOne x = Check.of(game);
            s.due("from() of " + game, x.from(), -9);
            s.due("finding()", x.finding(), 0);
        }
        s.due("by LAW 2 behind 1", withOne("l2n2").from(), -9);
    }

    private void wish() {
        WhoSaysOne x = Check.of("n6n9");
        s.dueAsked(x, "by 2: wish(44)", x.wish(44), 2, 13);
        s.dueAsked(x, "by 2, 4: wish(12)", x.wish(12), 2, 2);
        s.dueAsked(x, "by 2 alone: wish(8)", x.wish(8), 2, 1);
        x = Check.of("n4n5");
        s.dueAsked(x, "2, 3, 7: wish(7)", x.wish(7), 2, 3);
        s.dueAsked(x, "6, 11, too: wish(8)", x.wish(8), 2, 5);
        s.dueAsked(x, "wish(11)", x.wish(11), 2, 5);
        s.dueAsked(x, "3 alone: wish(3)", x.wish(3), 3, 1);
    }

    private void wishAtTheEnds() {
        WhoSaysOne x = Check.of("n59");
        s.dueAsked(x, "60 too: wish(3422)", x.wish(3422), 2, 58);
        s.dueAsked(x, "all but 60: wish(3421)", x.wish(3421), 2, 57);
        s.dueAsked(x, "wish(4000)", x.wish(4000), 2, 58);
        s.dueAsked(x, "2, which is the least, too", Check.of("n59").wish(58), 2, 58);
        x = Check.of("n60");
        s.dueAsked(x, "7 .. 59: wish(4000)", x.wish(4000), 7, 15);
        x = Check.of("n2");
        s.dueAsked(x, "by 3: wish(2)", x.wish(2), 3, 1);
    }

    private void wishHowMany() {
        WhoSaysOne x = Check.of("n2");
        s.dueAsked(x, "3: wish(2)", x.wish(2), 3, 1);
        s.dueAsked(x, "3, 5: wish(4)", x.wish(4), 3, 2);
        s.dueAsked(x, "3 .. 59: wish(4000)", x.wish(4000), 3, 29);
    }

    private void wishNone() {
        WhoSaysOne x = Check.of("n6n9");
        x.wish(44);
        s.dueAsked(x, "wish(1)", x.wish(1), -9, 13);
        s.dueAsked(x, "wish(7)", x.wish(7), -9, 13);
        s.due("nothing SAID: wish(4000)", new WhoSaysOne().wish(4000), -9);
        s.due("wish(1)", Check.of("n2n3").wish(1), -9);
        s.due("finding()", x.finding(), 0);
    }

    private void wishBad() {
        WhoSaysOne x = Check.of("n6n9");
        for (int v : new int[] {0, 4001, -1, MIN, MAX}) {
            s.due("wish(" + v + ")", x.wish(v), -1);
        }
        s.due("ahead of STATE: wish(0)", withOne("n6").wish(0), -1);
        s.due("ahead of STATE: wish(4001)", withOne("n6").wish(4001), -1);
        s.due("finding()", x.finding(), 0);
    }

    private void wishHadAlready() {
        WhoSaysOne x = Check.of("n6n9n20");
        s.due("wish(44)", x.wish(44), -4);
        s.due("wish(4000)", x.wish(4000), -4);
        s.due("wish(43)", x.wish(43), 2);
        s.due("1 was SAID: wish(1)", withOne("n6").wish(1), -4);
        s.due("1 is a GAP: wish(2)", Check.of("n2n3").wish(2), -4);
        s.due("finding()", x.finding(), 0);
    }

    private void wishByAnotherLaw() {
        for (int law = 1; law <= 2; law++) {
            s.due("by LAW " + law, Check.of("l" + law + "n6").wish(44), -4);
            s.due("nothing SAID", Check.of("l" + law).wish(44), -4);
            s.due("BAD ahead of STATE", Check.of("l" + law).wish(0), -1);
        }
    }
}
