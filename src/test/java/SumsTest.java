/** Promises 22 to 31: what can be had, and what can't. */
public final class SumsTest {
    private static final Check CHECK = new Check("SumsTest");

    public static void main(String[] args) {
        had();
        ways();
        byJust();
        gaps();
        greatest();
        rest();
        needed();
        common();
        from();
        wish();
        CHECK.end();
    }

    private static void dueHad(WhoSaysOne x, int v, int want, int few) {
        CHECK.due("had(" + v + ")", x.had(v), want);
        CHECK.due("by how few", x.asked(), few);
    }

    private static void had() {
        WhoSaysOne x = Check.of("n6n9n20");
        dueHad(x, 43, 0, -9);
        dueHad(x, 44, 1, 4);
        dueHad(x, 60, 1, 3);
        dueHad(x, 6, 1, 1);
        dueHad(x, 4000, 1, 200);
        dueHad(x, 1, 0, -9);
        CHECK.due("had(0)", x.had(0), -1);
        CHECK.due("had(4001)", x.had(4001), -1);
        CHECK.due("had(-1)", x.had(-1), -1);
        CHECK.due("asked() stays", x.asked(), -9);
        x = Check.of("l1 n12n20");
        dueHad(x, 4, 1, -9);
        dueHad(x, 4000, 1, -9);
        dueHad(x, 6, 0, -9);
        x = Check.of("l2 n10n25");
        dueHad(x, 30, 1, 3);
        dueHad(x, 40, 0, -9);
        dueHad(x, 50, 1, 2);
        dueHad(x, 105, 1, 6);
        dueHad(x, 106, 0, -9);
        for (int law = 0; law <= 2; law++) {
            x = Check.of("l" + law);
            dueHad(x, 1, 0, -9);
            dueHad(x, 4000, 0, -9);
        }
    }

    private static void dueWays(WhoSaysOne x, int v, long want) {
        CHECK.due("ways(" + v + ")", x.ways(v), 1);
        CHECK.due("upper()", x.upper(), want);
        CHECK.due("lower()", x.lower(), 1);
    }

    private static void ways() {
        WhoSaysOne x = Check.of("n50n25n10n5");
        dueWays(x, 100, 40);
        x.say(1);
        dueWays(x, 100, 292);
        dueWays(x, 1, 1);
        x = Check.of("n5n7");
        dueWays(x, 23, 0);
        dueWays(x, 35, 2);
        dueWays(x, 400, 12);
        CHECK.due("ways(0)", x.ways(0), -1);
        CHECK.due("ways(401)", x.ways(401), -1);
        CHECK.due("upper() stays", x.upper(), 12);
        dueWays(new WhoSaysOne(), 5, 0);
        for (int law = 1; law <= 2; law++) {
            x = Check.of("l" + law + "n5");
            CHECK.due("another LAW", x.ways(5), -4);
            CHECK.due("BAD first", x.ways(0), -1);
        }
    }

    private static void dueJust(WhoSaysOne x, int v, int k, long want) {
        CHECK.due("byJust(" + v + ", " + k + ")", x.byJust(v, k), 1);
        CHECK.due("upper()", x.upper(), want);
        CHECK.due("lower()", x.lower(), 1);
    }

    private static void byJust() {
        WhoSaysOne x = Check.of("n4n3n2");
        dueJust(x, 12, 3, 1);
        dueJust(x, 12, 4, 3);
        dueJust(x, 12, 6, 1);
        dueJust(x, 12, 7, 0);
        dueJust(x, 40, 20, 1);
        dueJust(x, 80, 20, 1);
        dueJust(x, 60, 20, 11);
        dueJust(x, 2, 1, 1);
        dueJust(x, 1, 1, 0);
        dueJust(x, 400, 20, 0);
        CHECK.due("byJust(0, 1)", x.byJust(0, 1), -1);
        CHECK.due("byJust(401, 1)", x.byJust(401, 1), -1);
        CHECK.due("byJust(1, 0)", x.byJust(1, 0), -1);
        CHECK.due("byJust(1, 21)", x.byJust(1, 21), -1);
        x = Check.of("l2n5");
        CHECK.due("another LAW", x.byJust(5, 1), -4);
        CHECK.due("BAD first", x.byJust(5, 0), -1);
    }

    private static void gaps() {
        WhoSaysOne x = Check.of("n5n7n9");
        CHECK.due("gaps(2)", x.gaps(2), 8);
        CHECK.dueRow(x, 2, 1, 2, 3, 4, 6, 8, 11, 13);
        x = Check.of("n60n59");
        CHECK.due("gaps(0)", x.gaps(0), 1711);
        CHECK.due("at(0, 59)", x.at(0, 59), 1);
        CHECK.due("the sixtieth", x.asked(), 62);
        CHECK.due("at(0, 60)", x.at(0, 60), -3);
        x.undo(1);
        CHECK.due("without end", x.gaps(0), -3);
        CHECK.due("NOUGHT", x.finding(), 4);
        CHECK.due("the ROW stays", x.at(0, 59), 1);
        CHECK.due("gaps(6)", x.gaps(6), -1);
        CHECK.due("gaps(-1)", x.gaps(-1), -1);
        x = Check.of("l1n4n9");
        CHECK.due("none by taking off", x.gaps(5), 0);
        CHECK.dueRow(x, 5);
        x = Check.of("l1n4n10");
        CHECK.due("without end", x.gaps(5), -3);
        x = Check.of("l2n4n9");
        CHECK.due("without end", x.gaps(5), -3);
    }

    private static void greatest() {
        WhoSaysOne x = Check.of("n6n9n20");
        CHECK.due("greatest()", x.greatest(), 43);
        CHECK.due("how many", x.asked(), 22);
        x = Check.of("n8n12n18");
        CHECK.due("without end", x.greatest(), -3);
        CHECK.due("NOUGHT", x.finding(), 4);
        x.say(1);
        CHECK.due("greatest()", x.greatest(), 0);
        CHECK.due("how many", x.asked(), 0);
        x = new WhoSaysOne();
        x.say(1);
        CHECK.due("greatest()", x.greatest(), 0);
        x = Check.of("l1n30n49");
        CHECK.due("greatest()", x.greatest(), 0);
        x = Check.of("l2n30");
        CHECK.due("without end", x.greatest(), -3);
    }

    private static void rest() {
        WhoSaysOne x = Check.of("n6n9n20");
        CHECK.due("rest(6, 1)", x.rest(6, 1), 49);
        CHECK.due("rest(6, 0)", x.rest(6, 0), 6);
        CHECK.due("rest(2, 1)", x.rest(2, 1), 9);
        CHECK.due("rest(60, 59)", x.rest(60, 59), 59);
        CHECK.due("rest(60, 43)", x.rest(60, 43), 103);
        CHECK.due("rest(1, 0)", x.rest(1, 0), -1);
        CHECK.due("rest(61, 0)", x.rest(61, 0), -1);
        CHECK.due("rest(5, 5)", x.rest(5, 5), -1);
        CHECK.due("rest(5, -1)", x.rest(5, -1), -1);
        x = Check.of("n60");
        CHECK.due("rest(59, 58)", x.rest(59, 58), 58 * 60);
        CHECK.due("rest(59, 0)", x.rest(59, 0), 59 * 60);
        CHECK.due("rest(60, 1)", x.rest(60, 1), -9);
        CHECK.due("nothing SAID", new WhoSaysOne().rest(7, 0), -9);
        x = new WhoSaysOne();
        x.say(1);
        CHECK.due("1 alone", x.rest(5, 3), 3);
        CHECK.due("1 alone", x.rest(2, 1), 1);
        CHECK.due("above 0", x.rest(2, 0), 2);
        x = Check.of("n8");
        x.say(1);
        CHECK.due("1 behind another", x.rest(7, 1), 1);
        x = Check.of("l1n5");
        CHECK.due("another LAW", x.rest(3, 1), -4);
        CHECK.due("BAD first", x.rest(3, 3), -1);
    }

    private static void needed() {
        WhoSaysOne x = Check.of("n10n15n5n4");
        CHECK.due("needed()", x.needed(), 12);
        CHECK.due("how many", x.asked(), 2);
        x = Check.of("l1n12n8n6");
        CHECK.due("6 is made by none, 8 too", x.needed(), 6);
        CHECK.due("how many", x.asked(), 2);
        x = Check.of("l2n30n20n5");
        CHECK.due("20 is no three times 5", x.needed(), 6);
        CHECK.due("how many", x.asked(), 2);
        x = Check.of("l2n20n5");
        CHECK.due("both", x.needed(), 3);
        x = new WhoSaysOne();
        CHECK.due("nothing", x.needed(), 0);
        CHECK.due("how many", x.asked(), 0);
    }

    private static void common() {
        CHECK.due("none", new WhoSaysOne().common(), 0);
        CHECK.due("one", Check.of("n42").common(), 42);
        CHECK.due("two", Check.of("l2n42n28").common(), 14);
        CHECK.due("three", Check.of("l1n42n28n6").common(), 2);
    }

    private static void from() {
        CHECK.due("from()", Check.of("n6n9n20").from(), 44);
        CHECK.due("from()", Check.of("n60n59").from(), 3422);
        CHECK.due("from()", Check.of("n6n9").from(), -9);
        CHECK.due("from()", new WhoSaysOne().from(), -9);
        CHECK.due("from()", Check.of("l1n6n9").from(), -9);
        CHECK.due("from()", Check.of("l1n6n9n4").from(), 1);
        CHECK.due("from()", Check.of("l2n2n3").from(), -9);
        WhoSaysOne x = Check.of("n2");
        x.say(1);
        CHECK.due("from()", x.from(), 1);
    }

    private static void wish() {
        WhoSaysOne x = Check.of("n6n9");
        CHECK.due("wish(44)", x.wish(44), 2);
        CHECK.due("how many", x.asked(), 13);
        CHECK.due("none makes all", x.wish(1), -9);
        CHECK.due("asked() stays", x.asked(), 13);
        CHECK.due("wish(0)", x.wish(0), -1);
        CHECK.due("wish(4001)", x.wish(4001), -1);
        x.say(20);
        CHECK.due("wish(44)", x.wish(44), -4);
        CHECK.due("wish(43)", x.wish(43), 2);
        x = Check.of("l1n6");
        CHECK.due("another LAW", x.wish(44), -4);
        CHECK.due("BAD first", x.wish(0), -1);
        CHECK.due("nothing SAID", new WhoSaysOne().wish(4000), -9);
    }
}
