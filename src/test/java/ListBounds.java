/** Sentences of promises 38 to 40: lists of GAPS, a tree of them. */
final class ListBounds {
    private static final int MAX = Integer.MAX_VALUE, MIN = Integer.MIN_VALUE;
    private static final int[] NO_ROW = {-1, 6, MIN, MAX};

    private final Sentences s;

    ListBounds(Sentences s) {
        this.s = s;
    }

    void all() {
        s.test(38, "Whether a ROW of unlike numbers 1 .. 60 can be all GAPS there are of some numbers SAID (by LAW 0): 1",
                this::list);
        s.test(38, "unlike numbers 1 .. 60", this::listOfNoneAndOfAll);
        s.test(38, "0: the least number of them that is the sum of two", this::listThatCannotBe);
        s.test(38, "(perhaps one twice)", this::listOfOneTwice);
        s.test(38, "that are none of them, by asked()", this::listTellsTheLeast);
        s.test(38, "(0, if it can be)", this::listTellsNought);
        s.test(38, "BAD", this::listBad);
        s.test(38, "NOTHING", this::listNothing);
        s.test(38, "UNLIKE: a number that is none", this::listOfNoNumber);
        s.test(38, "or is told twice", this::listOfOneToldTwice);
        s.test(39, "Of such a list: the least numbers that make just these GAPS, rising", this::makes);
        s.test(39, "come to another ROW (anew", this::makesAnew);
        s.test(39, "60 at most): how many", this::makesSixtyAtMost);
        s.test(39, "Of such a list", this::makesOfNone);
        s.test(39, "BAD", this::makesBad);
        s.test(39, "NOTHING", this::makesNothing);
        s.test(39, "UNLIKE", this::makesUnlike);
        s.test(39, "also if it can't be", this::makesOfWhatCannotBe);
        s.test(40, "How many sets of GAPS with n (0 .. 9) GAPS can be, told by upper() (lower() is 1): 1", this::tree);
        s.test(40, "n (0 .. 9)", this::treeOfNone);
        s.test(40, "how many of these have greatest GAP f (0 .. 17) by asked()", this::treeByGreatest);
        s.test(40, "(lower() is 1)", this::treeTold);
        s.test(40, "BAD", this::treeBad);
    }

    private static WhoSaysOne of(int... list) {
        WhoSaysOne x = new WhoSaysOne();
        Check.fill(x, 0, list);
        return x;
    }

    private static int[] upTo(int last) {
        int[] all = new int[last];
        for (int i = 0; i < last; i++) {
            all[i] = i + 1;
        }
        return all;
    }

    private void dueList(int want, int asked, int... list) {
        WhoSaysOne x = of(list);
        s.dueAsked(x, "list(0) of " + java.util.Arrays.toString(list), x.list(0), want, asked);
        s.due("the ROW stays", x.row(1, list.length), list.length);
        s.dueRow(x, 0, list);
    }

    // ---- promise 38

    private void list() {
        dueList(1, 0, 1, 2, 3, 6, 7, 11);
        dueList(1, 0, 11, 1, 7, 2, 6, 3);
        dueList(1, 0, 1);
        dueList(1, 0, 1, 2, 4, 5);
        dueList(1, 0, 1, 2, 3, 7);
        dueList(0, 8, 1, 2, 3, 8);
    }

    private void listOfNoneAndOfAll() {
        dueList(1, 0);
        dueList(1, 0, upTo(60));
        dueList(1, 0, upTo(59));
        dueList(1, 0, 1, 3);
        dueList(0, 60, 60);
    }

    private void listThatCannotBe() {
        dueList(0, 9, 1, 2, 5, 9, 11);
        dueList(0, 8, 1, 2, 3, 6, 8, 11);
        dueList(0, 3, 3);
        dueList(0, 3, 60, 3);
    }

    private void listOfOneTwice() {
        dueList(0, 2, 2);
        dueList(0, 4, 1, 3, 4);
        dueList(0, 4, 4, 3, 1);
    }

    private void listTellsTheLeast() {
        dueList(0, 2, 60, 30, 15, 2);
        dueList(0, 8, 8, 11, 1, 2, 3, 10);
        dueList(0, 60, 1, 2, 60);
        dueList(0, 5, 1, 5);
    }

    private void listTellsNought() {
        WhoSaysOne x = of(1, 3);
        Check.fill(x, 1, 2);
        s.dueAsked(x, "list(1)", x.list(1), 0, 2);
        s.dueAsked(x, "list(0)", x.list(0), 1, 0);
        s.dueAsked(x, "list(1)", x.list(1), 0, 2);
        x.row(0, 0);
        s.dueAsked(x, "list(0) of none", x.list(0), 1, 0);
    }

    private void listBad() {
        WhoSaysOne x = of(1, 3);
        for (int r : NO_ROW) {
            s.due("list(" + r + ")", x.list(r), -1);
        }
        s.due("finding()", x.finding(), 0);
    }

    private void listNothing() {
        WhoSaysOne x = new WhoSaysOne();
        for (int r = 0; r < 6; r++) {
            s.dueFinding(x, "list(" + r + ")", x.list(r), 1);
        }
    }

    private void listOfNoNumber() {
        for (int v : new int[] {0, 61, -1, 64, 65, MIN, MAX}) {
            WhoSaysOne x = of(1, v);
            s.dueFinding(x, "list(0) of 1, " + v, x.list(0), 3);
            s.due("asked() stays", x.asked(), 0);
        }
        WhoSaysOne x = of(2, 0);
        s.dueFinding(x, "it could not be, either", x.list(0), 3);
        s.due("60 is one", of(60).list(0), 0);
    }

    private void listOfOneToldTwice() {
        WhoSaysOne x = of(1, 1);
        s.dueFinding(x, "list(0) of 1, 1", x.list(0), 3);
        x = of(60, 3, 60);
        s.dueFinding(x, "list(0) of 60, 3, 60", x.list(0), 3);
        x = of(1, 2, 3, 2);
        s.dueFinding(x, "list(0) of 1, 2, 3, 2", x.list(0), 3);
    }

    // ---- promise 39

    private void dueMakers(int[] list, int... makers) {
        WhoSaysOne x = of(list);
        s.due("makes(0, 5) of " + java.util.Arrays.toString(list), x.makes(0, 5), makers.length);
        s.dueRow(x, 5, makers);
        s.dueRow(x, 0, list);
    }

    private void makes() {
        dueMakers(new int[] {1, 2, 3, 6, 7, 11}, 4, 5);
        dueMakers(new int[] {5, 4, 2, 1}, 3, 7, 8);
        dueMakers(new int[] {1}, 2, 3);
        dueMakers(new int[] {1, 3, 5, 7, 9}, 2, 11);
        dueMakers(new int[] {1, 2, 3}, 4, 5, 6, 7);
    }

    private void makesAnew() {
        WhoSaysOne x = of(1, 3);
        Check.fill(x, 1, 9, 9, 9, 9, 9);
        s.due("over a longer one: makes(0, 1)", x.makes(0, 1), 2);
        s.dueRow(x, 1, 2, 5);
        s.due("to one that is missing: makes(0, 5)", x.makes(0, 5), 2);
        s.dueRow(x, 5, 2, 5);
        s.due("count(6)", x.count(6), 3);
    }

    private void makesSixtyAtMost() {
        WhoSaysOne x = of(upTo(60));
        s.due("61 .. 121: makes(0, 1)", x.makes(0, 1), 61);
        s.dueAsked(x, "at(1, 0)", x.at(1, 0), 1, 61);
        s.dueAsked(x, "at(1, 59)", x.at(1, 59), 1, 120);
        s.dueFinding(x, "at(1, 60)", x.at(1, 60), 2);
        x = of(upTo(59));
        s.due("60 .. 119: makes(0, 1)", x.makes(0, 1), 60);
        s.dueAsked(x, "at(1, 59)", x.at(1, 59), 1, 119);
        s.dueFinding(x, "at(1, 60)", x.at(1, 60), 2);
        x = of(upTo(58));
        s.due("59 .. 117: makes(0, 1)", x.makes(0, 1), 59);
        s.dueAsked(x, "at(1, 58)", x.at(1, 58), 1, 117);
        s.dueFinding(x, "at(1, 59)", x.at(1, 59), 2);
    }

    private void makesOfNone() {
        dueMakers(new int[0], 1);
    }

    private void makesBad() {
        WhoSaysOne x = of(1, 3);
        for (int r : NO_ROW) {
            s.due("makes(" + r + ", 0)", x.makes(r, 0), -1);
            s.due("makes(0, " + r + ")", x.makes(0, r), -1);
            s.due("BAD ahead of NOTHING: makes(3, " + r + ")", x.makes(3, r), -1);
        }
        x = of(0, 0);
        s.due("BAD ahead of UNLIKE: makes(0, 6)", x.makes(0, 6), -1);
        s.due("finding()", x.finding(), 0);
    }

    private void makesNothing() {
        WhoSaysOne x = of(1, 3);
        for (int r = 1; r < 6; r++) {
            s.dueFinding(x, "makes(" + r + ", 0)", x.makes(r, 0), 1);
        }
        s.dueRow(x, 0, 1, 3);
        s.due("where to may be missing: makes(0, 4)", x.makes(0, 4), 2);
    }

    private void makesUnlike() {
        for (int[] list : new int[][] {{0}, {61}, {-1}, {MIN}, {MAX}, {1, 1}, {1, 3, 3}}) {
            WhoSaysOne x = of(list);
            Check.fill(x, 1, 9);
            s.dueFinding(x, "makes(0, 1)", x.makes(0, 1), 3);
            s.dueRow(x, 1, 9);
            s.dueFinding(x, "makes(0, 2)", x.makes(0, 2), 3);
            s.due("count(6)", x.count(6), 2);
        }
    }

    private void makesOfWhatCannotBe() {
        for (int[] list : new int[][] {{2}, {60}, {1, 5}, {1, 2, 3, 8}}) {
            WhoSaysOne x = of(list);
            Check.fill(x, 1, 9);
            s.dueFinding(x, "makes(0, 1)", x.makes(0, 1), 3);
            s.dueRow(x, 1, 9);
        }
    }

    // ---- promise 40

    /** For 0 to 9 GAPS, how many sets have each greatest GAP 0 .. 17: counted by trying all sets of numbers. */
    private static final int[][] BY_GREATEST = {
        {1, 0, 0, 0, 0, 0, 0, 0, 0, 0, 0, 0, 0, 0, 0, 0, 0, 0},
        {0, 1, 0, 0, 0, 0, 0, 0, 0, 0, 0, 0, 0, 0, 0, 0, 0, 0},
        {0, 0, 1, 1, 0, 0, 0, 0, 0, 0, 0, 0, 0, 0, 0, 0, 0, 0},
        {0, 0, 0, 1, 1, 2, 0, 0, 0, 0, 0, 0, 0, 0, 0, 0, 0, 0},
        {0, 0, 0, 0, 1, 2, 1, 3, 0, 0, 0, 0, 0, 0, 0, 0, 0, 0},
        {0, 0, 0, 0, 0, 1, 2, 4, 2, 3, 0, 0, 0, 0, 0, 0, 0, 0},
        {0, 0, 0, 0, 0, 0, 1, 3, 4, 6, 3, 6, 0, 0, 0, 0, 0, 0},
        {0, 0, 0, 0, 0, 0, 0, 1, 3, 7, 7, 11, 2, 8, 0, 0, 0, 0},
        {0, 0, 0, 0, 0, 0, 0, 0, 1, 4, 7, 16, 8, 18, 6, 7, 0, 0},
        {0, 0, 0, 0, 0, 0, 0, 0, 0, 1, 4, 12, 13, 28, 17, 21, 7, 15}};

    private void tree() {
        int[] all = {1, 1, 2, 4, 7, 12, 23, 39, 67, 118};
        WhoSaysOne x = new WhoSaysOne();
        for (int n = 0; n <= 9; n++) {
            s.dueFraction(x, "tree(" + n + ", 0)", x.tree(n, 0), 1, all[n], 1);
            s.dueFraction(x, "tree(" + n + ", 17)", x.tree(n, 17), 1, all[n], 1);
        }
    }

    private void treeOfNone() {
        WhoSaysOne x = new WhoSaysOne();
        for (int f = 0; f <= 17; f++) {
            s.dueAsked(x, "tree(0, " + f + ")", x.tree(0, f), 1, f == 0 ? 1 : 0);
            s.due("upper()", x.upper(), 1);
        }
    }

    private void treeByGreatest() {
        WhoSaysOne x = new WhoSaysOne();
        for (int n = 0; n <= 9; n++) {
            for (int f = 0; f <= 17; f++) {
                s.dueAsked(x, "tree(" + n + ", " + f + ")", x.tree(n, f), 1, BY_GREATEST[n][f]);
            }
        }
    }

    private void treeTold() {
        WhoSaysOne x = Check.of("n4n5");
        x.share();
        s.due("lower() was 6", x.lower(), 6);
        s.dueFraction(x, "tree(4, 0)", x.tree(4, 0), 1, 7, 1);
    }

    private void treeBad() {
        WhoSaysOne x = new WhoSaysOne();
        x.tree(3, 5);
        for (int n : new int[] {-1, 10, MIN, MAX}) {
            s.dueAsked(x, "tree(" + n + ", 0)", x.tree(n, 0), -1, 2);
        }
        for (int f : new int[] {-1, 18, MIN, MAX}) {
            s.dueAsked(x, "tree(0, " + f + ")", x.tree(0, f), -1, 2);
        }
        s.due("upper() stays", x.upper(), 4);
        s.due("finding()", x.finding(), 0);
    }
}
