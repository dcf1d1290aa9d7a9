/** Sentences of promises 15 to 21: saying, taking back, keeping. */
final class SayBounds {
    private static final int MAX = Integer.MAX_VALUE, MIN = Integer.MIN_VALUE;
    private static final int[] NO_KEEP = {-1, 3, MIN, MAX};

    private final Sentences s;

    SayBounds(Sentences s) {
        this.s = s;
    }

    void all() {
        s.test(15, "A number is SAID: how many of 1 .. 60 MAY be SAID then.", this::say);
        s.test(15, "A number is SAID", this::sayAtTheEnds);
        s.test(15, "BAD: not 1 .. 60", this::sayBad);
        s.test(15, "STATE: it is OVER", this::sayWhenOver);
        s.test(15, "or it is HAD", this::sayHad);
        s.test(15, "FULL: 12", this::sayFull);
        s.test(15, "(but for 1)", this::sayOneWhenFull);
        s.test(15, "(FULL last.)", this::sayFullLast);
        s.test(16, "Whether a number (1 .. 60) MAY be SAID: 1, 0.", this::may);
        s.test(16, "BAD", this::mayBad);
        s.test(17, "Number i that was SAID", this::said);
        s.test(17, "BAD: below 0", this::saidBelow);
        s.test(17, "BEYOND", this::saidBeyond);
        s.test(18, "Numbers from number i on", this::undo);
        s.test(18, "(i 0 to how many there are", this::undoAll);
        s.test(18, "then 0) are taken back: how many", this::undoNone);
        s.test(18, "are taken back", this::undoLeavesNothing);
        s.test(18, "BAD", this::undoBad);
        s.test(19, "Who is to speak (0, 1)", this::turn);
        s.test(19, "who has LOST by asked()", this::turnLost);
        s.test(19, "(NONE: it is not OVER)", this::turnNone);
        s.test(20, "The GAME is kept in a place (0 .. 2", this::keep);
        s.test(20, "numbers SAID, the LAW, not PLAYERS)", this::keepWhat);
        s.test(20, "how many were SAID", this::keepTellsHowMany);
        s.test(20, "BAD", this::keepBad);
        s.test(21, "The GAME is as it was kept", this::on);
        s.test(21, "how many were SAID", this::onTellsHowMany);
        s.test(21, "BAD", this::onBad);
        s.test(21, "NOTHING", this::onNothing);
    }

    /** Twelve numbers, none of them HAD by the others. */
    private static WhoSaysOne full(String law) {
        WhoSaysOne x = Check.of(law);
        for (int n = 60; n > 48; n--) {
            x.say(n);
        }
        return x;
    }

    private void say() {
        WhoSaysOne x = new WhoSaysOne();
        s.due("say(20)", x.say(20), 57);
        s.due("say(30)", x.say(30), 55);
        s.due("said(1)", x.said(1), 30);
        s.due("count(1)", x.count(1), 2);
        s.due("by LAW 1, 10 in common", Check.of("l1 n20").say(30), 54);
        s.due("by LAW 2, three times", Check.of("l2").say(20), 57);
        s.due("by LAW 2, three times", Check.of("l2").say(3), 57);
    }

    private void sayAtTheEnds() {
        s.due("say(60)", new WhoSaysOne().say(60), 59);
        s.due("say(2)", new WhoSaysOne().say(2), 30);
        s.due("say(1)", new WhoSaysOne().say(1), 0);
        s.due("say(1) by LAW 1", Check.of("l1").say(1), 0);
        s.due("say(1) by LAW 2", Check.of("l2").say(1), 57);
    }

    private void sayBad() {
        WhoSaysOne x = new WhoSaysOne();
        for (int n : new int[] {0, 61, -1, MIN, MAX}) {
            s.due("say(" + n + ")", x.say(n), -1);
        }
        s.due("count(1)", x.count(1), 0);
        x.say(1);
        s.due("BAD ahead of STATE: say(61)", x.say(61), -1);
        s.due("BAD ahead of FULL: say(0)", full("").say(0), -1);
        s.due("finding()", x.finding(), 0);
    }

    private void sayWhenOver() {
        WhoSaysOne x = Check.of("l2 n60");
        x.say(1);
        s.due("1 was SAID: say(4), which MAY be", x.say(4), -4);
        s.due("may(4)", x.may(4), 1);
        s.due("count(1)", x.count(1), 2);
        x = new WhoSaysOne();
        x.say(1);
        s.due("1 was SAID: say(2)", x.say(2), -4);
        s.due("1 was SAID: say(1)", x.say(1), -4);
        x = Check.of("l1 n4n9");
        s.due("none MAY be: say(1)", x.say(1), -4);
        x.undo(1);
        s.due("taken back: say(1)", x.say(1), 0);
    }

    private void sayHad() {
        WhoSaysOne x = Check.of("n6n10");
        for (int n : new int[] {6, 10, 12, 16, 22, 60}) {
            s.due("say(" + n + ")", x.say(n), -4);
        }
        s.due("count(1)", x.count(1), 2);
        s.due("say(14), which is not", x.say(14), 33);
        x = Check.of("l1 n6n10");
        s.due("by LAW 1: say(14)", x.say(14), -4);
        s.due("by LAW 1: say(2)", x.say(2), -4);
        x = Check.of("l2 n6");
        s.due("by LAW 2: say(18)", x.say(18), -4);
        s.due("by LAW 2: say(24), four times 6", x.say(24), 60 - 10);
    }

    private void sayFull() {
        WhoSaysOne x = full("");
        s.due("count(1)", x.count(1), 12);
        for (int n = 2; n <= 48; n++) {
            s.due("say(" + n + ")", x.say(n), -2);
        }
        s.due("count(1)", x.count(1), 12);
        s.due("may(48) still", x.may(48), 1);
        x.undo(11);
        s.due("the twelfth", x.say(48), 48);
        s.due("the thirteenth", x.say(49), -2);
        s.due("by LAW 2", full("l2").say(2), -2);
    }

    private void sayOneWhenFull() {
        WhoSaysOne x = full("");
        s.due("say(1)", x.say(1), 0);
        s.due("count(1)", x.count(1), 13);
        s.due("said(12)", x.said(12), 1);
        s.due("undo(12)", x.undo(12), 1);
        s.due("say(1) again", x.say(1), 0);
        x = full("l2");
        s.due("by LAW 2: say(1)", x.say(1), 45);
        s.due("said(12)", x.said(12), 1);
    }

    private void sayFullLast() {
        WhoSaysOne x = full("");
        s.due("HAD ahead of FULL: say(60)", x.say(60), -4);
        s.due("HAD ahead of FULL: say(49)", x.say(49), -4);
        x.say(1);
        s.due("OVER ahead of FULL: say(48)", x.say(48), -4);
        x = full("l2");
        x.say(1);
        s.due("OVER ahead of FULL: say(5), which MAY be", x.say(5), -4);
    }

    private void may() {
        WhoSaysOne x = new WhoSaysOne();
        for (int n = 1; n <= 60; n++) {
            s.due("nothing SAID: may(" + n + ")", x.may(n), 1);
        }
        x.say(20);
        for (int n = 1; n <= 60; n++) {
            s.due("may(" + n + ")", x.may(n), n % 20 == 0 ? 0 : 1);
        }
        x.say(1);
        for (int n = 1; n <= 60; n++) {
            s.due("OVER: may(" + n + ")", x.may(n), 0);
        }
    }

    private void mayBad() {
        WhoSaysOne x = new WhoSaysOne();
        for (int n : new int[] {0, 61, -1, MIN, MAX}) {
            s.due("may(" + n + ")", x.may(n), -1);
        }
        s.due("finding()", x.finding(), 0);
    }

    private void said() {
        WhoSaysOne x = Check.of("n60n9n40");
        x.say(1);
        int[] want = {60, 9, 40, 1};
        for (int i = 0; i < want.length; i++) {
            s.due("said(" + i + ")", x.said(i), want[i]);
        }
    }

    private void saidBelow() {
        WhoSaysOne x = Check.of("n9");
        s.due("said(-1)", x.said(-1), -1);
        s.due("said(MIN)", x.said(MIN), -1);
        s.due("nothing SAID: said(-1)", new WhoSaysOne().said(-1), -1);
        s.due("finding()", x.finding(), 0);
    }

    private void saidBeyond() {
        WhoSaysOne x = Check.of("n9");
        s.dueFinding(x, "said(1)", x.said(1), 2);
        s.dueFinding(x, "said(60)", x.said(60), 2);
        s.dueFinding(x, "said(MAX)", x.said(MAX), 2);
        x.undo(0);
        s.dueFinding(x, "said(0)", x.said(0), 2);
        x = full("");
        s.dueFinding(x, "said(12)", x.said(12), 2);
        x.say(1);
        s.dueFinding(x, "said(13)", x.said(13), 2);
    }

    private void undo() {
        WhoSaysOne x = Check.of("n9n8n7");
        s.due("undo(1)", x.undo(1), 2);
        s.due("said(0)", x.said(0), 9);
        s.due("count(1)", x.count(1), 1);
        s.due("may(8)", x.may(8), 1);
        s.due("may(15)", x.may(15), 1);
        s.due("may(18)", x.may(18), 0);
        x = Check.of("l1 n30n20n4");
        s.due("undo(2)", x.undo(2), 1);
        s.due("may(10)", x.may(10), 0);
        s.due("may(2)", x.may(2), 1);
        x = full("");
        x.say(1);
        s.due("undo(12)", x.undo(12), 1);
        s.dueAsked(x, "turn()", x.turn(), 0, -9);
    }

    private void undoAll() {
        WhoSaysOne x = Check.of("l2 ps n9n8n7");
        s.due("undo(0)", x.undo(0), 3);
        s.due("count(1)", x.count(1), 0);
        s.due("count(2)", x.count(2), 60);
        s.due("law()", x.law(), 2);
        s.due("count(0)", x.count(0), 2);
        x = full("");
        x.say(1);
        s.due("undo(0) of thirteen", x.undo(0), 13);
        s.due("count(2)", x.count(2), 60);
    }

    private void undoNone() {
        WhoSaysOne x = Check.of("n9n8n7");
        long before = x.digest();
        s.due("undo(3)", x.undo(3), 0);
        s.due("digest() stays", x.digest(), before);
        s.due("nothing SAID: undo(0)", new WhoSaysOne().undo(0), 0);
    }

    /** What was taken back does not count any more, whatever is asked. */
    private void undoLeavesNothing() {
        String[] left = {"", "n9", "n4n9", "n6n4n5", "l1", "l1n6", "l1n12n8", "l2", "l2n5", "l2n5n3"};
        for (String game : left) {
            for (int n : new int[] {1, 2, 7, 11, 19}) {
                WhoSaysOne x = Check.of(game);
                WhoSaysOne fresh = Check.of(game);
                int many = x.count(1);
                if (x.say(n) >= 0) {
                    x.greatest();
                    x.had(60);
                    x.undo(many);
                    dueAlike(game + " without " + n, x, fresh);
                }
            }
        }
    }

    private void dueAlike(String name, WhoSaysOne x, WhoSaysOne y) {
        s.due(name + ": digest()", x.digest(), y.digest());
        for (int v = 1; v <= 60; v++) {
            s.due(name + ": may(" + v + ")", x.may(v), y.may(v));
            s.due(name + ": had(" + v + ")", x.had(v), y.had(v));
            s.due(name + ": asked()", x.asked(), y.asked());
            s.due(name + ": rest(60, " + (v - 1) + ")", x.rest(60, v - 1), y.rest(60, v - 1));
        }
        int[][] answers = new int[2][];
        for (int i = 0; i < 2; i++) {
            WhoSaysOne z = i == 0 ? x : y;
            answers[i] = new int[] {z.said(0), z.turn(), z.asked(), z.ways(60), (int) z.upper(), z.byJust(60, 6),
                (int) z.upper(), z.gaps(0), z.greatest(), z.needed(), z.asked(), z.common(), z.from(), z.wish(50),
                z.wish(4000), z.asked(), z.whose(), z.lasts(), z.asked(), z.share(), z.best(1)};
        }
        for (int i = 0; i < answers[0].length; i++) {
            s.due(name + ": answer " + i, answers[0][i], answers[1][i]);
        }
        s.due(name + ": digest()", x.digest(), y.digest());
    }

    private void undoBad() {
        WhoSaysOne x = Check.of("n9n8n7");
        for (int i : new int[] {-1, 4, MIN, MAX}) {
            s.due("undo(" + i + ")", x.undo(i), -1);
        }
        s.due("count(1)", x.count(1), 3);
        s.due("nothing SAID: undo(1)", new WhoSaysOne().undo(1), -1);
        s.due("finding()", x.finding(), 0);
    }

    private void turn() {
        WhoSaysOne x = new WhoSaysOne();
        s.due("nothing SAID", x.turn(), 0);
        for (int n = 60; n > 48; n--) {
            x.say(n);
            s.due("behind " + n, x.turn(), n % 2 == 0 ? 1 : 0);
        }
        x.say(1);
        s.due("behind 1 as the thirteenth", x.turn(), 1);
    }

    private void turnLost() {
        WhoSaysOne x = new WhoSaysOne();
        x.say(1);
        s.dueAsked(x, "PLAYER 0 said 1", x.turn(), 1, 0);
        x = Check.of("n9");
        x.say(1);
        s.dueAsked(x, "PLAYER 1 said 1", x.turn(), 0, 1);
        x = full("");
        x.say(1);
        s.dueAsked(x, "PLAYER 0 said 1 as the thirteenth", x.turn(), 1, 0);
        x = Check.of("l1 n9n4");
        s.dueAsked(x, "none MAY be for PLAYER 0", x.turn(), 0, 0);
        x = Check.of("l1 n12n9n4");
        s.dueAsked(x, "none MAY be for PLAYER 1", x.turn(), 1, 1);
        x = Check.of("l1 n12");
        x.say(1);
        s.dueAsked(x, "1 was SAID, and none MAY be", x.turn(), 0, 1);
    }

    private void turnNone() {
        WhoSaysOne x = new WhoSaysOne();
        s.dueAsked(x, "nothing SAID", x.turn(), 0, -9);
        x = Check.of("n2n3");
        s.dueAsked(x, "1 alone MAY be", x.turn(), 0, -9);
        x.say(1);
        x.undo(2);
        s.dueAsked(x, "1 was taken back", x.turn(), 0, -9);
        x = full("");
        s.dueAsked(x, "twelve were SAID", x.turn(), 0, -9);
    }

    private void keep() {
        WhoSaysOne x = Check.of("n30");
        for (int k = 0; k < 3; k++) {
            s.due("keep(" + k + ")", x.keep(k), 1);
            s.due("count(5)", x.count(5), k + 1);
        }
        x.say(20);
        s.due("keep(1) anew", x.keep(1), 2);
        s.due("count(5)", x.count(5), 3);
        s.due("on(0)", x.on(0), 1);
        s.due("on(1)", x.on(1), 2);
        s.due("on(2)", x.on(2), 1);
    }

    private void keepWhat() {
        WhoSaysOne x = Check.of("l1pb n30n20");
        x.keep(2);
        x.undo(0);
        x.say(11);
        s.due("on(2)", x.on(2), 2);
        s.due("said(0)", x.said(0), 30);
        s.due("said(1)", x.said(1), 20);
        s.dueFinding(x, "said(2)", x.said(2), 2);
        s.due("law()", x.law(), 1);
        s.due("may(10)", x.may(10), 0);
        s.due("player(1)", x.player(1), 3);
        s.due("count(0)", x.count(0), 2);
    }

    private void keepTellsHowMany() {
        WhoSaysOne x = new WhoSaysOne();
        s.due("nothing SAID", x.keep(0), 0);
        s.due("count(5)", x.count(5), 1);
        x = full("");
        s.due("twelve", x.keep(0), 12);
        x.say(1);
        s.due("thirteen", x.keep(1), 13);
    }

    private void keepBad() {
        WhoSaysOne x = new WhoSaysOne();
        for (int k : NO_KEEP) {
            s.due("keep(" + k + ")", x.keep(k), -1);
        }
        s.due("count(5)", x.count(5), 0);
        s.due("finding()", x.finding(), 0);
    }

    private void on() {
        WhoSaysOne x = full("");
        x.keep(0);
        x.say(1);
        x.keep(1);
        x.undo(3);
        s.due("on(1)", x.on(1), 13);
        s.dueAsked(x, "turn()", x.turn(), 1, 0);
        s.due("on(0)", x.on(0), 12);
        s.dueAsked(x, "turn()", x.turn(), 0, -9);
        x.undo(0);
        x.say(2);
        s.due("what is kept stays: on(0)", x.on(0), 12);
        s.due("said(11)", x.said(11), 49);
        s.due("may(2)", x.may(2), 1);
    }

    private void onTellsHowMany() {
        WhoSaysOne x = new WhoSaysOne();
        x.keep(2);
        x.say(9);
        s.due("nothing SAID", x.on(2), 0);
        s.due("count(1)", x.count(1), 0);
        s.due("may(9)", x.may(9), 1);
    }

    private void onBad() {
        WhoSaysOne x = new WhoSaysOne();
        for (int k : NO_KEEP) {
            s.due("on(" + k + ")", x.on(k), -1);
        }
        s.due("finding()", x.finding(), 0);
    }

    private void onNothing() {
        WhoSaysOne x = Check.of("n9");
        for (int k = 0; k < 3; k++) {
            s.dueFinding(x, "on(" + k + ")", x.on(k), 1);
        }
        s.due("count(1)", x.count(1), 1);
        x.keep(1);
        s.dueFinding(x, "on(0)", x.on(0), 1);
        s.dueFinding(x, "on(2)", x.on(2), 1);
    }
}
