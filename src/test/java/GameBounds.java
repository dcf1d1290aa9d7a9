/** Sentences of promises 10 to 14: GAMES by TEXTS, the LAW, PLAYERS and what they tell. */
final class GameBounds {
    private static final int MAX = Integer.MAX_VALUE, MIN = Integer.MIN_VALUE;
    private static final int[] NO_TEXT = {-1, 4, MIN, MAX};

    private final Sentences s;

    GameBounds(Sentences s) {
        this.s = s;
    }

    void all() {
        s.test(10, "A FAULT of a TEXT", this::fault);
        s.test(10, "NONE: there is none.", this::faultNone);
        s.test(10, "BAD", this::faultBad);
        s.test(10, "NOTHING", this::faultNothing);
        s.test(11, "A GAME by a TEXT (anew", this::game);
        s.test(11, "A GAME", this::gameOfAnEmptyText);
        s.test(11, "kept GAMES go)", this::gameLetsKeptOnesGo);
        s.test(11, "how many numbers were SAID", this::gameTellsHowMany);
        s.test(11, "BAD", this::gameBad);
        s.test(11, "NOTHING", this::gameNothing);
        s.test(11, "STATE: a FAULT", this::gameOfAFault);
        s.test(11, "(STATE behind NOTHING.)", this::gameStateBehindNothing);
        s.test(12, "The LAW.", this::law);
        s.test(13, "The KIND of a PLAYER", this::player);
        s.test(13, "BAD", this::playerBad);
        marks();
        marksRefused();
    }

    private void marks() {
        s.test(14, "What a PLAYER that IS of a KIND tells now: a SMALL one", this::markSmall);
        s.test(14, "(LONG, too) how many of 1 .. 60 would be left that MAY be SAID behind what it SAYS",
                this::markLongAsSmall);
        s.test(14, "behind what it SAYS", this::markSmallSayingOne);
        s.test(14, "a PAIR", this::markPair);
        s.test(14, "(CHANCE, too) the greatest that MAY be, less the number SAID last", this::markChanceAsPair);
        s.test(14, "(perhaps below 0", this::markPairBelowNought);
        s.test(14, "the greatest, if nothing was", this::markPairOfNothing);
        s.test(14, "none MAY be: NONE)", this::markPairNone);
        s.test(14, "a BEST one by how many numbers it WINS", this::markBest);
        s.test(14, "(not SOLVED: NONE)", this::markBestNotSolved);
        s.test(14, "a LONG one how many MAY be SAID now", this::markLong);
        s.test(14, "a CHANCE one how many above 1", this::markChance);
    }

    private void marksRefused() {
        s.test(14, "BAD: also KIND 0", this::markBadKind);
        s.test(14, "BAD", this::markBadPlayer);
        s.test(14, "STATE: it is OVER, and a SMALL one", this::markSmallWhenOver);
        s.test(14, "(LONG, too) is asked", this::markLongWhenOver);
        s.test(14, "STATE: it is OVER", this::markOthersWhenOver);
        s.test(14, "UNLIKE", this::markUnlike);
        s.test(14, "(UNLIKE ahead of STATE.)", this::markUnlikeAheadOfState);
    }

    // ---- promises 10 to 13

    private void fault() {
        WhoSaysOne x = new WhoSaysOne();
        for (int t = 0; t < 4; t++) {
            Check.write(x, t, "p  n5x");
            s.due("fault(" + t + ")", x.fault(t), 5);
        }
        x.text(0, 60);
        x.put(0, 59, 'x');
        s.due("at the last byte", x.fault(0), 59);
        x.put(0, 59, 'n');
        s.due("behind the last byte", x.fault(0), 60);
        x.put(0, 0, 'x');
        s.due("at the first byte", x.fault(0), 0);
    }

    private void faultNone() {
        WhoSaysOne x = new WhoSaysOne();
        Check.write(x, 0, "l1 bs n40n28");
        s.due("fault(0)", x.fault(0), -9);
        x.text(1, 0);
        s.due("of an empty one", x.fault(1), -9);
        x.text(2, 60);
        s.due("of sixty blanks", x.fault(2), -9);
        s.due("nothing was SAID by it", x.count(1), 0);
        s.due("no PLAYER by it", x.count(0), 0);
    }

    private void faultBad() {
        WhoSaysOne x = new WhoSaysOne();
        for (int t : NO_TEXT) {
            s.due("fault(" + t + ")", x.fault(t), -1);
        }
        s.due("finding()", x.finding(), 0);
    }

    private void faultNothing() {
        WhoSaysOne x = new WhoSaysOne();
        for (int t = 0; t < 4; t++) {
            s.dueFinding(x, "fault(" + t + ")", x.fault(t), 1);
        }
    }

    private void game() {
        WhoSaysOne x = new WhoSaysOne();
        Check.write(x, 3, "l2 gc n3n7");
        s.due("game(3)", x.game(3), 2);
        s.due("law()", x.law(), 2);
        s.due("said(0)", x.said(0), 3);
        s.due("said(1)", x.said(1), 7);
        s.due("count(0)", x.count(0), 2);
        Check.write(x, 0, "b n9");
        s.due("game(0) anew", x.game(0), 1);
        s.due("law()", x.law(), 0);
        s.due("said(0)", x.said(0), 9);
        s.dueFinding(x, "said(1)", x.said(1), 2);
        s.due("may(3)", x.may(3), 1);
        s.due("player(0)", x.player(0), 3);
        s.due("player(1)", x.player(1), -1);
    }

    private void gameOfAnEmptyText() {
        WhoSaysOne x = Check.of("l1 ps n10");
        x.text(1, 0);
        s.due("game(1)", x.game(1), 0);
        s.due("count(0)", x.count(0), 0);
        s.due("count(1)", x.count(1), 0);
        s.due("count(2)", x.count(2), 60);
        s.due("law()", x.law(), 0);
    }

    private void gameLetsKeptOnesGo() {
        WhoSaysOne x = Check.of("n10");
        for (int k = 0; k < 3; k++) {
            x.keep(k);
        }
        s.due("count(5)", x.count(5), 3);
        s.due("game(0)", x.game(0), 1);
        s.due("count(5)", x.count(5), 0);
        for (int k = 0; k < 3; k++) {
            s.dueFinding(x, "on(" + k + ")", x.on(k), 1);
        }
    }

    private void gameTellsHowMany() {
        WhoSaysOne x = new WhoSaysOne();
        StringBuilder text = new StringBuilder("l2");
        for (int n = 1; n <= 12; n++) {
            text.append('n').append(61 - n);
            Check.write(x, 0, text.toString());
            s.due("game(0) with " + n, x.game(0), n);
            s.due("count(1)", x.count(1), n);
        }
    }

    private void gameBad() {
        WhoSaysOne x = Check.of("p n5");
        long before = x.digest();
        for (int t : NO_TEXT) {
            s.due("game(" + t + ")", x.game(t), -1);
        }
        s.due("finding()", x.finding(), 0);
        s.due("digest() stays", x.digest(), before);
    }

    private void gameNothing() {
        WhoSaysOne x = Check.of("p n5");
        long before = x.digest();
        for (int t = 1; t < 4; t++) {
            s.dueFinding(x, "game(" + t + ")", x.game(t), 1);
        }
        s.due("digest() stays", x.digest(), before);
    }

    private void gameOfAFault() {
        WhoSaysOne x = Check.of("l1sb n12");
        x.keep(1);
        x.say(10);
        for (String fault : new String[] {"l0ppn7n14", "n7n8x", "l2n3n", "pppn4", " p n1"}) {
            Check.write(x, 0, fault);
            long before = x.digest();
            s.due("game of " + fault, x.game(0), -4);
            s.due("digest() stays", x.digest(), before);
        }
        s.due("finding()", x.finding(), 0);
        s.due("said(1)", x.said(1), 10);
        s.due("may(2)", x.may(2), 0);
        s.due("kept still", x.on(1), 1);
    }

    private void gameStateBehindNothing() {
        WhoSaysOne x = new WhoSaysOne();
        s.dueFinding(x, "game(0)", x.game(0), 1);
        Check.write(x, 0, "x");
        s.due("game(0)", x.game(0), -4);
    }

    private void law() {
        for (int law = 0; law <= 2; law++) {
            s.due("law() of l" + law, Check.of("l" + law).law(), law);
        }
        s.due("law() without l", Check.of("n5").law(), 0);
        WhoSaysOne x = Check.of("l2n5");
        x.undo(0);
        s.due("law() with nothing SAID any more", x.law(), 2);
    }

    private void player() {
        String letters = "psabgc";
        for (int first = 0; first < 6; first++) {
            for (int second = 0; second < 6; second++) {
                WhoSaysOne x = Check.of("" + letters.charAt(first) + letters.charAt(second));
                s.due("player(0)", x.player(0), first);
                s.due("player(1)", x.player(1), second);
            }
        }
    }

    private void playerBad() {
        WhoSaysOne x = new WhoSaysOne();
        s.due("without PLAYERS: player(0)", x.player(0), -1);
        x = Check.of("g");
        s.due("player(0)", x.player(0), 4);
        s.due("with one alone: player(1)", x.player(1), -1);
        x = Check.of("gg");
        for (int p : new int[] {-1, 2, MIN, MAX}) {
            s.due("player(" + p + ")", x.player(p), -1);
        }
        s.due("finding()", x.finding(), 0);
    }

    // ---- promise 14

    private void markSmall() {
        WhoSaysOne x = Check.of("sg");
        s.due("2 would leave 30", x.mark(0, 1), 30);
        x.say(2);
        s.due("3 would leave 1", x.mark(0, 1), 1);
        s.due("by LAW 1 7 would leave none", Check.of("l1 s n30").mark(0, 1), 0);
        s.due("by LAW 2 2, 4, 6 would go", Check.of("l2 s").mark(0, 1), 57);
    }

    private void markLongAsSmall() {
        WhoSaysOne x = Check.of("sg");
        s.due("31 would leave 59", x.mark(1, 1), 59);
        s.due("by LAW 1 15 would leave 56", Check.of("l1 g n30").mark(0, 1), 56);
        s.due("by LAW 2 31 would leave 59", Check.of("l2 g").mark(0, 1), 59);
    }

    private void markSmallSayingOne() {
        WhoSaysOne x = Check.of("sg n2n3");
        s.due("a SMALL says 1, and none would be left", x.mark(0, 1), 0);
        s.due("a LONG says 1, and none would be left", x.mark(1, 1), 0);
    }

    private void markPair() {
        WhoSaysOne x = Check.of("a n9n5");
        s.due("31 less 5", x.mark(0, 2), 26);
        s.due("by LAW 1 59 less 30", Check.of("l1 a n30").mark(0, 2), 29);
        s.due("by LAW 2 60 less 15, which is HAD", Check.of("l2 a n15").mark(0, 2), 45);
    }

    private void markChanceAsPair() {
        WhoSaysOne x = Check.of("pc n9n5");
        s.due("31 less 5", x.mark(1, 2), 26);
    }

    private void markPairBelowNought() {
        s.due("59 less 60", Check.of("a n60").mark(0, 2), -1);
        s.due("29 less 31", Check.of("a n2n31").mark(0, 2), -2);
        s.due("1 less 3", Check.of("a n2n3").mark(0, 2), -2);
        s.due("60 less 59", Check.of("c n59").mark(0, 2), 1);
    }

    private void markPairOfNothing() {
        for (int law = 0; law <= 2; law++) {
            s.due("by LAW " + law, Check.of("l" + law + "ca").mark(0, 2), 60);
            s.due("by LAW " + law, Check.of("l" + law + "ca").mark(1, 2), 60);
        }
        WhoSaysOne x = Check.of("a n60");
        x.undo(0);
        s.due("taken back", x.mark(0, 2), 60);
    }

    private void markPairNone() {
        WhoSaysOne x = Check.of("ac n20");
        x.say(1);
        s.due("a PAIR", x.mark(0, 2), -9);
        s.due("a CHANCE", x.mark(1, 2), -9);
        s.due("by LAW 1", Check.of("l1 a n4n9").mark(0, 2), -9);
        s.due("finding()", x.finding(), 0);
    }

    private void markBest() {
        s.due("by 11 alone", Check.of("b n4n5").mark(0, 3), 1);
        s.due("by three", Check.of("pb n6n7n8").mark(1, 3), 3);
        s.due("by none", Check.of("b n2n3").mark(0, 3), 0);
        s.due("with 14 GAPS", Check.of("b n2n29").mark(0, 3), 1);
    }

    private void markBestNotSolved() {
        s.due("nothing SAID", Check.of("b").mark(0, 3), -9);
        s.due("without end", Check.of("b n4n6").mark(0, 3), -9);
        s.due("with 15 GAPS", Check.of("b n2n31").mark(0, 3), -9);
        s.due("by LAW 1", Check.of("l1b n4n6").mark(0, 3), -9);
        s.due("by LAW 1 without GAPS", Check.of("l1b n4n9").mark(0, 3), -9);
        s.due("by LAW 2", Check.of("l2b n4n5").mark(0, 3), -9);
    }

    private void markLong() {
        WhoSaysOne x = Check.of("gg");
        s.due("all", x.mark(0, 4), 60);
        x.say(2);
        s.due("30", x.mark(1, 4), 30);
        x.say(3);
        s.due("1 alone", x.mark(1, 4), 1);
        x.say(1);
        s.due("none, when it is OVER", x.mark(1, 4), 0);
    }

    private void markChance() {
        WhoSaysOne x = Check.of("cc");
        s.due("all but 1", x.mark(0, 5), 59);
        x.say(2);
        s.due("29", x.mark(1, 5), 29);
        x.say(3);
        s.due("none above 1", x.mark(1, 5), 0);
        x.say(1);
        s.due("none, when it is OVER", x.mark(1, 5), 0);
    }

    private void markBadKind() {
        for (char letter : "psabgc".toCharArray()) {
            WhoSaysOne x = Check.of("" + letter);
            for (int kind : new int[] {0, -1, 6, MIN, MAX}) {
                s.due("mark(0, " + kind + ") of " + letter, x.mark(0, kind), -1);
            }
            s.due("finding()", x.finding(), 0);
        }
    }

    private void markBadPlayer() {
        s.due("without PLAYERS", new WhoSaysOne().mark(0, 1), -1);
        s.due("with one alone", Check.of("s").mark(1, 1), -1);
        WhoSaysOne x = Check.of("ss");
        for (int p : new int[] {-1, 2, MIN, MAX}) {
            s.due("mark(" + p + ", 1)", x.mark(p, 1), -1);
            s.due("BAD ahead of UNLIKE: mark(" + p + ", 5)", x.mark(p, 5), -1);
        }
        s.due("finding()", x.finding(), 0);
        x.say(1);
        s.due("BAD ahead of STATE: mark(2, 1)", x.mark(2, 1), -1);
    }

    private void markSmallWhenOver() {
        WhoSaysOne x = Check.of("s n2");
        x.say(1);
        s.due("1 was SAID", x.mark(0, 1), -4);
        s.due("none MAY be", Check.of("l1s n4n9").mark(0, 1), -4);
        x = Check.of("l2s n5");
        x.say(1);
        s.due("1 was SAID, but others MAY be", x.mark(0, 1), -4);
        s.due("finding()", x.finding(), 0);
        s.due("1 alone MAY be, and it is not OVER", Check.of("s n2n3").mark(0, 1), 0);
    }

    private void markLongWhenOver() {
        WhoSaysOne x = Check.of("g n2");
        x.say(1);
        s.due("1 was SAID", x.mark(0, 1), -4);
        s.due("none MAY be", Check.of("l1g n4n9").mark(0, 1), -4);
        x = Check.of("l2g n5");
        x.say(1);
        s.due("1 was SAID, but others MAY be", x.mark(0, 1), -4);
    }

    private void markOthersWhenOver() {
        WhoSaysOne x = Check.of("l2ac n5");
        x.say(1);
        s.due("a PAIR: 60 less 1", x.mark(0, 2), 59);
        s.due("a CHANCE as a PAIR", x.mark(1, 2), 59);
        s.due("a CHANCE", x.mark(1, 5), x.count(2));
        x = Check.of("l2gb n5");
        x.say(1);
        s.due("a LONG", x.mark(0, 4), x.count(2));
        s.due("a BEST by another LAW", x.mark(1, 3), -9);
        s.due("some MAY be still", x.may(60), 1);
        x = Check.of("b n5");
        x.say(1);
        s.due("a BEST without GAPS", x.mark(0, 3), 0);
    }

    private void markUnlike() {
        String letters = "psabgc";
        for (int kind = 0; kind < 6; kind++) {
            for (int asked = 1; asked < 6; asked++) {
                WhoSaysOne x = Check.of("p" + letters.charAt(kind));
                boolean is = asked == kind || asked == 1 && kind == 4 || asked == 2 && kind == 5;
                int answer = x.mark(1, asked);
                s.due(letters.charAt(kind) + " is refused as " + asked, answer == -3 ? 1 : 0, is ? 0 : 1);
                s.due("finding()", x.finding(), is ? 0 : 3);
            }
        }
    }

    private void markUnlikeAheadOfState() {
        WhoSaysOne x = Check.of("pa n5");
        x.say(1);
        s.dueFinding(x, "mark(0, 1)", x.mark(0, 1), 3);
        s.dueFinding(x, "mark(1, 1)", x.mark(1, 1), 3);
        x = Check.of("l1sb n4n9");
        s.dueFinding(x, "mark(1, 1)", x.mark(1, 1), 3);
        s.dueFinding(x, "mark(0, 4)", x.mark(0, 4), 3);
    }
}
