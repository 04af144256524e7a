/** Promises 24 to 26 and 32: rallies told and gone through, forged ones. */
public final class RallyTest {
    private static final Check check = new Check();

    public static void main(String[] args) {
        withoutAPoint();
        withAPoint();
        waysByThemselves();
        emptyOne();
        spent();
        nothingChanges();
        forged();
        refusals();
        check.end();
    }

    private static void allWays(SideBySide x, int d, int... due) {
        for (int p = 0; p < 4; p++) {
            check.due("ways(" + d + ", " + p + ")", x.ways(d, p), due[p]);
        }
    }

    private static void withoutAPoint() {
        SideBySide x = Check.of("b00;b19;");
        for (int sort = 0; sort < 3; sort++) {
            Check.row(x, 0, sort, 0, 8, 0, 0, 1, 3);
            check.due("all of them", x.rally(0, 0), 3);
            check.due("no point", x.rally(0, 1), 2);
            allWays(x, 0, 1, 2, 2, 2);
            check.due("spent", x.spent(0), 0);
            check.due("forged", x.forged(0), -4);
        }
    }

    private static void withAPoint() {
        SideBySide x = Check.of("b00;b19;");
        Check.row(x, 0, Check.BYTES, 1, 3);
        check.due("one hit", x.rally(0, 0), 1);
        check.due("side 0", x.rally(0, 1), 0);
        allWays(x, 0, 0, 0, 0, 0);
        check.due("spent", x.spent(0), 0);
        check.due("not forged", x.forged(0), -4);
        Check.row(x, 0, Check.BYTES, 0, 8, 1, 3, 0, 0);
        check.due("two hits", x.rally(0, 0), 2);
        check.due("side 1", x.rally(0, 1), 1);
        allWays(x, 0, 0, 0, 2, 1);
        check.due("spent behind it", x.spent(0), 3);
        check.due("forged behind a point", x.forged(0), 2);
        // Points that were made already do not end a rally.
        Check.told(x, "x13;x13;");
        check.due("POINTS", x.side(0, 2), 2);
        Check.row(x, 0, Check.BYTES, 0, 8, 0, 0);
        check.due("both hits", x.rally(0, 0), 2);
        check.due("no point in it", x.rally(0, 1), 2);
    }

    private static void waysByThemselves() {
        SideBySide x = Check.of("b00;");
        Check.row(x, 0, Check.BYTES, 0, 8, 0, 0);
        Check.row(x, 1, Check.BYTES, 0, 6);
        check.due("1 as a partner", x.ways(0, 1), 2);
        check.due("1 stays", x.ways(1, 1), 0);
        check.due("2 as a partner", x.ways(1, 2), 2);
        check.due("0 for the shuttle", x.ways(0, 0), 1);
    }

    private static void emptyOne() {
        SideBySide x = Check.of("t210;t310;");
        x.row(0, 2, 0);
        check.due("none go by", x.rally(0, 0), 0);
        check.due("no point", x.rally(0, 1), 2);
        allWays(x, 0, 0, 0, 0, 0);
        check.due("of several the least", x.spent(0), 2);
        check.due("not forged", x.forged(0), -4);
    }

    private static void spent() {
        SideBySide x = Check.of("b00;t202;t102;");
        Check.row(x, 0, Check.INTS, 0, 7);
        check.due("of several the least", x.spent(0), 1);
        Check.row(x, 0, Check.INTS, 0, 6, 0, 1);
        check.due("who hits and goes", x.spent(0), 1);
        x.tires(1, 0);
        x.tires(2, 0);
        check.due("3 went one and hit one", x.spent(0), 3);
    }

    private static void nothingChanges() {
        SideBySide x = Check.of("b00;b19;h12;");
        Check.row(x, 0, Check.BYTES, 0, 4, 0, 8, 1, 3);
        String ahead = Check.state(x);
        x.rally(0, 0);
        x.ways(0, 1);
        x.spent(0);
        x.forged(0);
        check.dueTrue("a rally is in mind", ahead.equals(Check.state(x)));
        check.due("the row stays", x.element(0, 3), 8);
    }

    private static void forged() {
        SideBySide x = Check.of("b00;b19;");
        int[][] rows = {{2, 0}, {0, 9}, {-1, 0}, {0, -1}, {0, 8, 2, 0}, {0, 8, 0, 9}, {0, 8, 0, 0, 0, Integer.MAX_VALUE},
            {0, 8, Integer.MIN_VALUE, 0}, {1, 3, 9, 9}, {1, 3, 0, 0}};
        int[] due = {0, 0, 0, 0, 1, 1, 2, 1, 1, 1};
        for (int i = 0; i < rows.length; i++) {
            Check.row(x, 0, Check.INTS, rows[i]);
            check.due("forged, row " + i, x.forged(0), due[i]);
        }
        check.due("no strokes", forgedWithoutStrokes(), 0);
    }

    private static int forgedWithoutStrokes() {
        SideBySide x = new SideBySide();
        Check.row(x, 0, Check.BYTES, 0, 0);
        return x.forged(0);
    }

    private static void all(SideBySide x, int d, int due, int forgedDue) {
        check.due("rally(" + d + ", 0)", x.rally(d, 0), due);
        check.due("rally(" + d + ", 1)", x.rally(d, 1), due);
        check.due("ways(" + d + ", 0)", x.ways(d, 0), due);
        check.due("spent(" + d + ")", x.spent(d), due);
        check.due("forged(" + d + ")", x.forged(d), forgedDue);
    }

    private static void refusals() {
        SideBySide x = Check.of("b00;b19;");
        all(x, -1, -1, -1);
        all(x, 8, -1, -1);
        all(x, 0, -11, -11);
        x.keep(0, 1, 0, 0);
        all(x, 0, -12, -12);
        Check.row(x, 0, Check.SHORTS, 0);
        all(x, 0, -13, -13);
        Check.row(x, 0, Check.SHORTS, 0, 0, 9);
        all(x, 0, -13, -13);
        Check.row(x, 0, Check.SHORTS, 2, 0);
        all(x, 0, -13, 0);
        Check.row(x, 0, Check.SHORTS, 0, 9);
        all(x, 0, -13, 0);
        Check.row(x, 0, Check.SHORTS, 0, 0, -1, 0);
        all(x, 0, -13, 1);
        // What stands behind a point is looked at, too.
        Check.row(x, 0, Check.SHORTS, 1, 3, 0, -1);
        all(x, 0, -13, 1);
        check.due("rally(0, 2)", x.rally(0, 2), -1);
        check.due("rally(0, -1)", x.rally(0, -1), -1);
        check.due("ways(0, 4)", x.ways(0, 4), -1);
        check.due("ways(0, -1)", x.ways(0, -1), -1);
        check.due("-1 goes ahead of -11", x.rally(1, 2), -1);
        check.due("-1 goes ahead of -11", x.ways(1, 4), -1);
    }
}
