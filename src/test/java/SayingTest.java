/** Promises 15 to 21: saying, taking back, keeping. */
public final class SayingTest {
    private static final Check CHECK = new Check("SayingTest");

    public static void main(String[] args) {
        say();
        sayUntilFull();
        sayWhenOver();
        may();
        saidAndUndo();
        turn();
        keepAndOn();
        CHECK.end();
    }

    private static void say() {
        WhoSaysOne x = new WhoSaysOne();
        CHECK.due("say(0)", x.say(0), -1);
        CHECK.due("say(61)", x.say(61), -1);
        CHECK.due("say(-1)", x.say(-1), -1);
        CHECK.due("say(20)", x.say(20), 57);
        CHECK.due("say(40)", x.say(40), -4);
        CHECK.due("say(20)", x.say(20), -4);
        CHECK.due("say(30)", x.say(30), 55);
        CHECK.due("say(50)", x.say(50), -4);
        CHECK.due("count(1)", x.count(1), 2);
        CHECK.due("no FINDING", x.finding(), 0);
        x = Check.of("l1 n20");
        CHECK.due("by taking off, too", x.say(30), 54);
        CHECK.due("say(10)", x.say(10), -4);
        x = Check.of("l1 n60");
        CHECK.due("15 in common", x.say(45), 56);
        x = Check.of("l2 n20");
        CHECK.due("three times at most", x.say(7), 60 - 11);
        CHECK.due("say(28)", x.say(28), 60 - 18);
        CHECK.due("say(21)", x.say(21), -4);
    }

    private static void sayUntilFull() {
        WhoSaysOne x = new WhoSaysOne();
        for (int n = 60; n > 48; n--) {
            CHECK.due("say(" + n + ")", x.say(n), n - 1);
        }
        CHECK.due("HAD ahead of FULL", x.say(60), -4);
        CHECK.due("FULL", x.say(48), -2);
        CHECK.due("1 is said still", x.say(1), 0);
        CHECK.due("count(1)", x.count(1), 13);
        CHECK.due("said(12)", x.said(12), 1);
        CHECK.due("turn()", x.turn(), 1);
        CHECK.due("PLAYER 0 said 1", x.asked(), 0);
        CHECK.due("keep(0)", x.keep(0), 13);
        CHECK.due("undo(0)", x.undo(0), 13);
        CHECK.due("on(0)", x.on(0), 13);
        CHECK.due("needed()", x.needed(), 1 << 12);
    }

    private static void sayWhenOver() {
        WhoSaysOne x = Check.of("l2 n60");
        CHECK.due("say(1)", x.say(1), 56);
        CHECK.due("OVER, though it MAY be", x.say(4), -4);
        CHECK.due("may(4)", x.may(4), 1);
        x = Check.of("l1 n4");
        CHECK.due("none is left", x.say(7), 0);
        CHECK.due("OVER", x.say(1), -4);
    }

    private static void may() {
        WhoSaysOne x = Check.of("n6n10");
        CHECK.due("may(1)", x.may(1), 1);
        CHECK.due("may(6)", x.may(6), 0);
        CHECK.due("may(14)", x.may(14), 1);
        CHECK.due("may(16)", x.may(16), 0);
        CHECK.due("may(60)", x.may(60), 0);
        CHECK.due("may(59)", x.may(59), 1);
        CHECK.due("may(0)", x.may(0), -1);
        CHECK.due("may(61)", x.may(61), -1);
    }

    private static void saidAndUndo() {
        WhoSaysOne x = Check.of("n9n8n7");
        CHECK.due("said(0)", x.said(0), 9);
        CHECK.due("said(2)", x.said(2), 7);
        CHECK.due("said(3)", x.said(3), -3);
        CHECK.due("BEYOND", x.finding(), 2);
        CHECK.due("said(-1)", x.said(-1), -1);
        CHECK.due("undo(4)", x.undo(4), -1);
        CHECK.due("undo(-1)", x.undo(-1), -1);
        CHECK.due("undo(3)", x.undo(3), 0);
        CHECK.due("may(15)", x.may(15), 0);
        CHECK.due("undo(1)", x.undo(1), 2);
        CHECK.due("may(15)", x.may(15), 1);
        CHECK.due("may(18)", x.may(18), 0);
        CHECK.due("said(1)", x.said(1), -3);
        CHECK.due("undo(0)", x.undo(0), 1);
        CHECK.due("may(18)", x.may(18), 1);
        x.say(1);
        CHECK.due("undo(0)", x.undo(0), 1);
        CHECK.due("turn()", x.turn(), 0);
        CHECK.due("not OVER any more", x.asked(), -9);
    }

    private static void turn() {
        WhoSaysOne x = Check.of("n9");
        CHECK.due("turn()", x.turn(), 1);
        CHECK.due("asked()", x.asked(), -9);
        x.say(1);
        CHECK.due("turn()", x.turn(), 0);
        CHECK.due("PLAYER 1 said 1", x.asked(), 1);
        x = Check.of("l1 n9n4");
        CHECK.due("turn()", x.turn(), 0);
        CHECK.due("none MAY be for PLAYER 0", x.asked(), 0);
        x = Check.of("l1 n12n9n4");
        CHECK.due("turn()", x.turn(), 1);
        CHECK.due("none MAY be for PLAYER 1", x.asked(), 1);
        x = new WhoSaysOne();
        x.say(1);
        CHECK.due("turn()", x.turn(), 1);
        CHECK.due("at once", x.asked(), 0);
    }

    private static void keepAndOn() {
        WhoSaysOne x = Check.of("l1pb n30");
        CHECK.due("on(2)", x.on(2), -3);
        CHECK.due("NOTHING", x.finding(), 1);
        CHECK.due("keep(2)", x.keep(2), 1);
        CHECK.due("keep(3)", x.keep(3), -1);
        CHECK.due("keep(-1)", x.keep(-1), -1);
        CHECK.due("on(3)", x.on(3), -1);
        CHECK.due("on(-1)", x.on(-1), -1);
        x.say(20);
        CHECK.due("keep(0)", x.keep(0), 2);
        CHECK.due("count(5)", x.count(5), 2);
        CHECK.due("on(2)", x.on(2), 1);
        CHECK.due("may(10)", x.may(10), 1);
        CHECK.due("on(0)", x.on(0), 2);
        CHECK.due("may(10)", x.may(10), 0);
        CHECK.due("law()", x.law(), 1);
        CHECK.due("PLAYERS stay", x.player(1), 3);
        x.undo(0);
        x.say(11);
        CHECK.due("what is kept stays", x.on(0), 2);
        CHECK.due("said(1)", x.said(1), 20);
    }
}
