/** Promises 1 to 9: a new object, ROWS, TEXTS. */
public final class RowsTest {
    private static final Check CHECK = new Check("RowsTest");

    public static void main(String[] args) {
        aNewObject();
        row();
        layAndAt();
        tear();
        copy();
        mean();
        text();
        put();
        CHECK.end();
    }

    private static void aNewObject() {
        WhoSaysOne x = new WhoSaysOne();
        int[] counts = {0, 0, 60, 0, 0, 0, 0, 0};
        for (int what = 0; what < 8; what++) {
            CHECK.due("count(" + what + ")", x.count(what), counts[what]);
        }
        CHECK.due("law()", x.law(), 0);
        CHECK.due("asked()", x.asked(), 0);
        CHECK.due("upper()", x.upper(), 0);
        CHECK.due("lower()", x.lower(), 1);
        CHECK.due("finding()", x.finding(), 0);
        CHECK.due("said(0)", x.said(0), -3);
        CHECK.due("at(0, 0)", x.at(0, 0), -3);
        CHECK.due("finding()", x.finding(), 1);
    }

    private static void row() {
        WhoSaysOne x = new WhoSaysOne();
        CHECK.due("row(0, 0)", x.row(0, 0), 0);
        CHECK.due("row(5, 60)", x.row(5, 60), 60);
        CHECK.due("count(6)", x.count(6), 2);
        CHECK.due("row(-1, 1)", x.row(-1, 1), -1);
        CHECK.due("row(6, 1)", x.row(6, 1), -1);
        CHECK.due("row(6, -1)", x.row(6, -1), -1);
        CHECK.due("row(0, 61)", x.row(0, 61), -1);
        CHECK.due("finding()", x.finding(), 0);
        CHECK.due("row(0, -1)", x.row(0, -1), -3);
        CHECK.due("finding()", x.finding(), 5);
        CHECK.due("lay(5, 59, 7)", x.lay(5, 59, 7), 1);
        CHECK.due("row(5, 60) again", x.row(5, 60), 60);
        CHECK.due("at(5, 59)", x.at(5, 59), 1);
        CHECK.due("it is 0 anew", x.asked(), 0);
    }

    private static void layAndAt() {
        WhoSaysOne x = new WhoSaysOne();
        x.row(1, 2);
        CHECK.due("lay(1, 1, 2147483647)", x.lay(1, 1, 2147483647), 1);
        CHECK.due("it was", x.asked(), 0);
        CHECK.due("lay(1, 1, -5)", x.lay(1, 1, -5), 1);
        CHECK.due("it was", x.asked(), 2147483647);
        CHECK.due("at(1, 0)", x.at(1, 0), 1);
        CHECK.due("it is", x.asked(), 0);
        CHECK.due("at(1, 1)", x.at(1, 1), 1);
        CHECK.due("it is", x.asked(), -5);
        int[] noRow = {-1, 6, Integer.MIN_VALUE, Integer.MAX_VALUE};
        for (int r : noRow) {
            CHECK.due("lay(" + r + ", 0, 1)", x.lay(r, 0, 1), -1);
            CHECK.due("at(" + r + ", 0)", x.at(r, 0), -1);
        }
        CHECK.due("lay(0, 5, 1)", x.lay(0, 5, 1), -3);
        CHECK.due("NOTHING ahead of BEYOND", x.finding(), 1);
        int[] noPlace = {-1, 2, Integer.MIN_VALUE, Integer.MAX_VALUE};
        for (int i : noPlace) {
            CHECK.due("lay(1, " + i + ", 1)", x.lay(1, i, 1), -3);
            CHECK.due("at(1, " + i + ")", x.at(1, i), -3);
        }
        CHECK.due("BEYOND", x.finding(), 2);
        CHECK.due("findings(2)", x.findings(2), 8);
        CHECK.due("asked() stays", x.asked(), -5);
    }

    private static void tear() {
        WhoSaysOne x = new WhoSaysOne();
        x.row(3, 4);
        CHECK.due("tear(3)", x.tear(3), 1);
        CHECK.due("count(6)", x.count(6), 0);
        CHECK.due("tear(3) again", x.tear(3), -3);
        CHECK.due("NOTHING", x.finding(), 1);
        CHECK.due("tear(-1)", x.tear(-1), -1);
        CHECK.due("tear(6)", x.tear(6), -1);
    }

    private static void copy() {
        WhoSaysOne x = new WhoSaysOne();
        Check.fill(x, 0, 1, 2, 3, 4, 5);
        Check.fill(x, 1, 9, 9, 9);
        CHECK.due("copy(0, 1, 1, 0, 2)", x.copy(0, 1, 1, 0, 2), 1);
        CHECK.dueRow(x, 1, 2, 3, 9);
        CHECK.due("upwards in itself", x.copy(0, 0, 0, 1, 4), 1);
        CHECK.dueRow(x, 0, 1, 1, 2, 3, 4);
        CHECK.due("downwards in itself", x.copy(0, 1, 0, 0, 4), 1);
        CHECK.dueRow(x, 0, 1, 2, 3, 4, 4);
        CHECK.due("none at the ends", x.copy(0, 5, 1, 3, 0), 1);
        CHECK.due("none behind the end", x.copy(0, 6, 1, 3, 0), -3);
        CHECK.due("BEYOND", x.finding(), 2);
        CHECK.due("none ahead of the beginning", x.copy(0, 0, 1, -1, 0), -3);
        CHECK.due("too many", x.copy(0, 0, 1, 0, 4), -3);
        CHECK.due("far too many", x.copy(0, 3, 1, 1, Integer.MAX_VALUE), -3);
        CHECK.due("from far", x.copy(0, Integer.MAX_VALUE, 1, 1, 1), -3);
        CHECK.due("to far", x.copy(0, 0, 1, Integer.MIN_VALUE, 1), -3);
        CHECK.due("BEYOND still", x.finding(), 2);
        CHECK.due("BAD first", x.copy(6, 0, 0, 0, -1), -1);
        CHECK.due("BAD too", x.copy(0, 0, -1, 0, -1), -1);
        CHECK.due("SIZE ahead of NOTHING", x.copy(5, 9, 0, 0, -1), -3);
        CHECK.due("SIZE", x.finding(), 5);
        CHECK.due("NOTHING ahead of BEYOND", x.copy(0, 9, 5, 9, 1), -3);
        CHECK.due("NOTHING", x.finding(), 1);
    }

    private static void mean() {
        WhoSaysOne x = new WhoSaysOne();
        Check.fill(x, 0, 7, -14, 0);
        CHECK.due("mean(0)", x.mean(0), 1);
        CHECK.due("cut towards 0", x.asked(), -2);
        Check.fill(x, 0, Integer.MAX_VALUE, Integer.MAX_VALUE, Integer.MAX_VALUE - 1);
        CHECK.due("of great ones", x.mean(0), 1);
        CHECK.due("it is", x.asked(), Integer.MAX_VALUE - 1);
        Check.fill(x, 0, Integer.MIN_VALUE, Integer.MIN_VALUE);
        CHECK.due("of low ones", x.mean(0), 1);
        CHECK.due("it is", x.asked(), Integer.MIN_VALUE);
        x.row(0, 0);
        CHECK.due("of none", x.mean(0), -3);
        CHECK.due("NOUGHT", x.finding(), 4);
        CHECK.due("missing", x.mean(1), -3);
        CHECK.due("NOTHING", x.finding(), 1);
        CHECK.due("mean(6)", x.mean(6), -1);
        CHECK.due("mean(-1)", x.mean(-1), -1);
    }

    private static void text() {
        WhoSaysOne x = new WhoSaysOne();
        CHECK.due("text(3, 60)", x.text(3, 60), 60);
        CHECK.due("its last byte is a blank", x.put(3, 59, 1), 1032);
        CHECK.due("text(3, 60) anew", x.text(3, 60), 60);
        CHECK.due("a blank again", x.put(3, 59, 1), 1032);
        CHECK.due("text(0, 0)", x.text(0, 0), 0);
        CHECK.due("count(7)", x.count(7), 2);
        CHECK.due("text(4, 0)", x.text(4, 0), -1);
        CHECK.due("text(-1, -1)", x.text(-1, -1), -1);
        CHECK.due("text(0, 61)", x.text(0, 61), -1);
        CHECK.due("text(0, -1)", x.text(0, -1), -3);
        CHECK.due("SIZE", x.finding(), 5);
    }

    private static void put() {
        WhoSaysOne x = new WhoSaysOne();
        x.text(2, 2);
        CHECK.due("put(2, 0, 127)", x.put(2, 0, 127), 1032);
        CHECK.due("put(2, 0, 128)", x.put(2, 0, 128), 1127);
        CHECK.due("put(2, 0, 255)", x.put(2, 0, 255), 872);
        CHECK.due("put(2, 0, 256 + 65)", x.put(2, 0, 321), 999);
        CHECK.due("put(2, 0, -129)", x.put(2, 0, -129), 1065);
        CHECK.due("put(2, 0, 0)", x.put(2, 0, 0), 1127);
        CHECK.due("put(2, 2, 0)", x.put(2, 2, 0), -3);
        CHECK.due("put(2, -1, 0)", x.put(2, -1, 0), -3);
        CHECK.due("BEYOND", x.finding(), 2);
        CHECK.due("put(0, 9, 0)", x.put(0, 9, 0), -3);
        CHECK.due("NOTHING", x.finding(), 1);
        CHECK.due("put(4, 0, 0)", x.put(4, 0, 0), -1);
        CHECK.due("put(-1, 0, 0)", x.put(-1, 0, 0), -1);
        CHECK.due("asked() is not told", x.asked(), 0);
    }
}
