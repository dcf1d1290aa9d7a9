/** Promises 38 to 40: lists of GAPS, a tree of them. */
public final class ListsTest {
    private static final Check CHECK = new Check("ListsTest");

    public static void main(String[] args) {
        list();
        listRefused();
        makes();
        makesMost();
        makesRefused();
        tree();
        CHECK.end();
    }

    private static void dueList(int want, int least, int... gaps) {
        WhoSaysOne x = new WhoSaysOne();
        Check.fill(x, 3, gaps);
        CHECK.due("list(3) of " + gaps.length, x.list(3), want);
        CHECK.due("the least that can't be", x.asked(), least);
    }

    private static void list() {
        dueList(1, 0);
        dueList(1, 0, 1);
        dueList(0, 2, 2);
        dueList(1, 0, 11, 7, 6, 3, 2, 1);
        dueList(0, 6, 6, 1, 2, 4);
        dueList(0, 8, 9, 8, 1, 2, 3, 5);
        dueList(0, 60, 60, 1);
        dueList(0, 4, 1, 3, 5, 4);
    }

    private static void listRefused() {
        WhoSaysOne x = new WhoSaysOne();
        CHECK.due("list(0)", x.list(0), -3);
        CHECK.due("NOTHING", x.finding(), 1);
        CHECK.due("list(-1)", x.list(-1), -1);
        CHECK.due("list(6)", x.list(6), -1);
        int[][] unlike = {{0}, {61}, {-1}, {1, 1}, {1, 3, 2, 3}, {65}, {Integer.MIN_VALUE}, {Integer.MAX_VALUE}};
        for (int[] one : unlike) {
            Check.fill(x, 0, one);
            CHECK.due("list(0)", x.list(0), -3);
            CHECK.due("UNLIKE", x.finding(), 3);
            CHECK.due("makes(0, 1)", x.makes(0, 1), -3);
            CHECK.due("UNLIKE", x.finding(), 3);
        }
        CHECK.due("count(6)", x.count(6), 1);
    }

    private static void makes() {
        WhoSaysOne x = new WhoSaysOne();
        x.row(0, 0);
        CHECK.due("of no GAPS", x.makes(0, 1), 1);
        CHECK.dueRow(x, 1, 1);
        Check.fill(x, 0, 11, 7, 6, 3, 2, 1);
        CHECK.due("of 4 and 5", x.makes(0, 1), 2);
        CHECK.dueRow(x, 1, 4, 5);
        Check.fill(x, 0, 1, 2, 4, 5);
        CHECK.due("of 3, 7, 8", x.makes(0, 1), 3);
        CHECK.dueRow(x, 1, 3, 7, 8);
        CHECK.due("into itself", x.makes(0, 0), 3);
        CHECK.dueRow(x, 0, 3, 7, 8);
    }

    private static void makesMost() {
        WhoSaysOne x = new WhoSaysOne();
        int[] all = new int[60];
        for (int i = 0; i < 60; i++) {
            all[i] = i + 1;
        }
        Check.fill(x, 0, all);
        CHECK.due("list(0)", x.list(0), 1);
        CHECK.due("61 .. 121 make them", x.makes(0, 1), 61);
        CHECK.due("at(1, 0)", x.at(1, 0), 1);
        CHECK.due("the first one", x.asked(), 61);
        CHECK.due("60 at most come to the ROW: at(1, 59)", x.at(1, 59), 1);
        CHECK.due("the last one", x.asked(), 120);
        CHECK.due("at(1, 60)", x.at(1, 60), -3);
        x.row(2, 59);
        x.copy(0, 0, 2, 0, 59);
        CHECK.due("60 of them", x.makes(2, 3), 60);
        CHECK.due("at(3, 59)", x.at(3, 59), 1);
        CHECK.due("the last one", x.asked(), 119);
        CHECK.due("all into itself", x.makes(0, 0), 61);
        CHECK.due("at(0, 59)", x.at(0, 59), 1);
        CHECK.due("the last one", x.asked(), 120);
        CHECK.due("at(0, 60)", x.at(0, 60), -3);
    }

    private static void makesRefused() {
        WhoSaysOne x = new WhoSaysOne();
        Check.fill(x, 0, 2);
        CHECK.due("BAD first", x.makes(1, 6), -1);
        CHECK.due("makes(6, 0)", x.makes(6, 0), -1);
        CHECK.due("makes(-1, 0)", x.makes(-1, 0), -1);
        CHECK.due("makes(0, -1)", x.makes(0, -1), -1);
        CHECK.due("makes(1, 0)", x.makes(1, 0), -3);
        CHECK.due("NOTHING", x.finding(), 1);
        CHECK.due("it can't be", x.makes(0, 1), -3);
        CHECK.due("UNLIKE", x.finding(), 3);
        CHECK.due("count(6)", x.count(6), 1);
    }

    private static void tree() {
        int[] all = {1, 1, 2, 4, 7, 12, 23, 39, 67, 118};
        WhoSaysOne x = new WhoSaysOne();
        for (int n = 0; n < all.length; n++) {
            int sum = 0;
            for (int f = 0; f <= 17; f++) {
                CHECK.due("tree(" + n + ", " + f + ")", x.tree(n, f), 1);
                sum += x.asked();
                CHECK.due("upper()", x.upper(), all[n]);
                CHECK.due("lower()", x.lower(), 1);
            }
            CHECK.due("by all greatest GAPS, with " + n, sum, all[n]);
        }
        x.tree(3, 3);
        CHECK.due("1, 2, 3", x.asked(), 1);
        x.tree(3, 4);
        CHECK.due("1, 2, 4", x.asked(), 1);
        x.tree(3, 5);
        CHECK.due("1, 2, 5 and 1, 3, 5", x.asked(), 2);
        CHECK.due("tree(-1, 0)", x.tree(-1, 0), -1);
        CHECK.due("tree(10, 0)", x.tree(10, 0), -1);
        CHECK.due("tree(0, -1)", x.tree(0, -1), -1);
        CHECK.due("tree(0, 18)", x.tree(0, 18), -1);
        CHECK.due("asked() stays", x.asked(), 2);
    }
}
