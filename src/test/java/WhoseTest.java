/** Promises 13 to 19 and 23: whose it is, what wins, where it falls, what is open, and a hit in mind. */
public final class WhoseTest {
    private static final Check check = new Check();

    public static void main(String[] args) {
        whose();
        wins();
        falls();
        open();
        forced();
        farthest();
        atWhom();
        change();
        nothingChanges();
        check.end();
    }

    private static void allWhose(SideBySide x, String when, int... due) {
        for (int cell = 0; cell < 9; cell++) {
            check.due("whose(0, " + cell + ") " + when, x.whose(0, cell), due[cell]);
        }
    }

    private static void whose() {
        SideBySide x = Check.of("b00;");
        allWhose(x, "at first", 2, 2, 2, 2, 2, 2, 3, 3, 3);
        x.forms(1, 1, 0);
        allWhose(x, "by habit 0", 2, 2, 2, 9, 9, 9, 3, 3, 3);
        x.forms(1, 1, 2);
        allWhose(x, "by habit 2", 2, 2, 2, 2, 2, 2, 3, 3, 3);
        x.forms(1, 1, 3);
        allWhose(x, "by habit 3", 2, 2, 2, 9, 9, 9, 3, 3, 3);
        x.hands(3);
        allWhose(x, "3 left-handed", 2, 2, 2, 3, 3, 3, 3, 3, 3);
        x.hands(2);
        allWhose(x, "both left-handed", 2, 2, 2, 9, 9, 9, 3, 3, 3);
        x.hands(3);
        allWhose(x, "2 left-handed", 2, 2, 2, 2, 2, 2, 3, 3, 3);
        x.forms(0, 1, 0);
        x.hit(0, 8);
        allWhose(x, "of side 0, which has habit 0", 0, 0, 0, 9, 9, 9, 1, 1, 1);
        // It counts where it falls, not where it is hit to.
        SideBySide y = Check.of("b60;p201;p321;");
        allWhose(y, "between them", 2, 2, 2, 2, 2, 2, 2, 2, 2);
        refused("whose", 0);
    }

    private static void refused(String call, int which) {
        SideBySide x = Check.of("b00;");
        int[][] hits = {{1, 0}, {-1, 0}, {0, 9}, {0, -1}, {Integer.MIN_VALUE, 0}, {0, Integer.MAX_VALUE}};
        for (int[] hit : hits) {
            int got = which == 0 ? x.whose(hit[0], hit[1]) : which == 1 ? x.wins(hit[0], hit[1]) : x.falls(hit[0], hit[1]);
            check.due(call + "(" + hit[0] + ", " + hit[1] + ")", got, -1);
        }
    }

    private static void wins() {
        SideBySide x = Check.of("b14;b15;b00;");
        int[] due = {0, 0, 0, 1, 0, 1, 0, 0, 0};
        for (int cell = 0; cell < 9; cell++) {
            check.due("wins(0, " + cell + ")", x.wins(0, cell), 0);
            check.due("wins(1, " + cell + ")", x.wins(1, cell), due[cell]);
        }
        x.forms(1, 1, 0);
        check.due("nobody's", x.wins(2, 4), 1);
        refused("wins", 1);
    }

    private static void falls() {
        SideBySide x = Check.of("b00;b10;b20;b30;b40;b50;b60;b70;");
        int[][] wandered = {{0, 0, 1, 3, 3, 4, 6, 6, 7}, {0, 1, 2, 3, 4, 5, 6, 7, 8}, {1, 2, 2, 4, 5, 5, 7, 8, 8}};
        for (int v = 0; v < 3; v++) {
            x.blows(v);
            for (int cell = 0; cell < 9; cell++) {
                for (int stroke = 0; stroke < 6; stroke++) {
                    check.due("falls(" + stroke + ", " + cell + ")", x.falls(stroke, cell), cell);
                }
                check.due("falls between, " + cell, x.falls(6, cell), cell / 3 * 3 + 1);
                check.due("falls wandering, " + cell + " with " + v, x.falls(7, cell), wandered[v][cell]);
            }
        }
        refused("falls", 2);
    }

    private static void open() {
        SideBySide x = Check.of("b00;b15;b40;b69;");
        check.due("open(0)", x.open(0), 0);
        check.due("open(1)", x.open(1), 8 + 32);
        check.due("open(2)", x.open(2), 0);
        Check.told(x, "p241;");
        check.due("a push is sooner in row 0", x.open(2), 1 + 4);
        Check.told(x, "p211;p311;");
        check.due("a push all over", x.open(2), 64 + 256);
        Check.told(x, "h10;");
        check.due("nobody's all over", x.open(0), 511);
        check.due("open(4)", x.open(4), -1);
        check.due("open(-1)", x.open(-1), -1);
    }

    private static void forced() {
        check.due("no strokes", new SideBySide().forced(), -4);
        SideBySide x = Check.of("b00;b14;");
        check.due("none", x.forced(), -4);
        Check.told(x, "b15;b16;");
        check.due("the first stroke, the first cell", x.forced(), 23);
        Check.told(x, "p201;p381;h10;");
        check.due("an earlier stroke", x.forced(), 2);
    }

    private static void farthest() {
        SideBySide x = Check.of("b00;b15;b60;");
        check.due("the cell", x.farthest(0, 0), 3);
        check.due("the way", x.farthest(0, 1), 2);
        check.due("got or not", x.farthest(1, 0), 3);
        check.due("of two alike the least", x.farthest(2, 0), 3);
        check.due("the way between", x.farthest(2, 1), 1);
        x.forms(1, 1, 0);
        check.due("nobody's, the cell", x.farthest(0, 0), 3);
        check.due("nobody's counts 99", x.farthest(0, 1), 99);
        Check.told(x, "p201;p301;h11;");
        check.due("the cell from a corner", x.farthest(0, 0), 8);
        check.due("the way from a corner", x.farthest(0, 1), 4);
        Check.told(x, "p281;p381;");
        check.due("the cell from the other corner", x.farthest(0, 0), 0);
        check.due("the way from the other corner", x.farthest(0, 1), 4);
        check.due("farthest(3, 0)", x.farthest(3, 0), -1);
        check.due("farthest(-1, 0)", x.farthest(-1, 0), -1);
        check.due("farthest(0, 2)", x.farthest(0, 2), -1);
        check.due("farthest(0, -1)", x.farthest(0, -1), -1);
    }

    private static void atWhom() {
        SideBySide x = Check.of("b00;b15;");
        check.due("the longest way", x.atWhom(0), 3);
        check.due("only who gets it counts", x.atWhom(1), 0);
        x.tires(3, 5);
        check.due("the tired one", x.atWhom(0), 6);
        x.tires(3, 1);
        check.due("of several the least", x.atWhom(0), 3);
        x.tires(3, 2);
        x.forms(1, 1, 2);
        check.due("both's tires by 3 more", x.atWhom(0), 3);
        x.tires(3, 99);
        check.due("99 at most", x.atWhom(0), 6);
        x.tires(2, 99);
        check.due("all at 99", x.atWhom(0), 0);
        Check.told(x, "p211;p311;h10;");
        check.due("nobody gets any", x.atWhom(0), -4);
        check.due("atWhom(2)", x.atWhom(2), -1);
        check.due("atWhom(-1)", x.atWhom(-1), -1);
    }

    private static void change() {
        SideBySide x = Check.of("b00;b19;");
        int[] at = {1, 7, 3, 8};
        int[] tired = {1, 0, 0, 1};
        for (int p = 0; p < 4; p++) {
            check.due("AT behind a hit", x.change(0, 8, p, 0), at[p]);
            check.due("TIRED behind a hit", x.change(0, 8, p, 1), tired[p]);
        }
        check.due("behind a point", x.change(1, 3, 0, 1), 5);
        check.due("behind a point", x.change(1, 3, 2, 0), 1);
        check.due("change(2, ..)", x.change(2, 0, 0, 0), -1);
        check.due("change(-1, ..)", x.change(-1, 0, 0, 0), -1);
        check.due("change(0, 9, ..)", x.change(0, 9, 0, 0), -1);
        check.due("change(0, -1, ..)", x.change(0, -1, 0, 0), -1);
        check.due("change(0, 0, 4, ..)", x.change(0, 0, 4, 0), -1);
        check.due("change(0, 0, -1, ..)", x.change(0, 0, -1, 0), -1);
        check.due("change(0, 0, 0, 2)", x.change(0, 0, 0, 2), -1);
        check.due("change(0, 0, 0, -1)", x.change(0, 0, 0, -1), -1);
    }

    private static void nothingChanges() {
        SideBySide x = Check.of("b00;b19;h12;t250;p213;");
        String ahead = Check.state(x);
        x.whose(0, 4);
        x.wins(0, 4);
        x.open(0);
        x.forced();
        x.farthest(0, 0);
        x.atWhom(0);
        x.change(0, 4, 2, 1);
        x.fewest(0);
        x.bestForm(0, 0);
        x.bestHabit(1, 1);
        x.two();
        x.draughts(2, 3, 0);
        x.nights(3, 4, 1);
        check.dueTrue("all of it is in mind", ahead.equals(Check.state(x)));
    }
}
