/** The bounds of ==== III.: SHELVES 0 .. 7, ROWS of 0 .. 100 elements, lowest bits, COST and FAILURE, THE IMAGE. */
public final class EdgeOfShelvesTest {
    private static final int[] BITS = {8, 16, 32};
    private static final Check check = new Check();

    public static void main(String[] args) {
        eightShelves();
        nothingAtFirst();
        nothingWhateverTheOthers();
        keepOverAll();
        rowsOfNone();
        rowsOfOne();
        rowsOf100();
        zeroAtFirstAgain();
        eachSort();
        lowestBits();
        everyPlace();
        copyBounds();
        copyWithinOne();
        copyOf100();
        copyOfNone();
        costByFigure();
        failureByFigure();
        takenStays();
        imageLeavesShelves();
        imageOfNone();
        imageTwice();
        check.end();
    }

    /** "element" that must throw nothing. */
    private static long at(SideBySide x, int d, int i) {
        try {
            return x.element(d, i);
        } catch (RuntimeException e) {
            return Long.MIN_VALUE;
        }
    }

    private static boolean isState(SideBySide x, int d, int i) {
        try {
            x.element(d, i);
            return false;
        } catch (RuntimeException e) {
            return e.getClass() == IllegalStateException.class;
        }
    }

    /** "SHELVES 0 .. 7": each holds its own. */
    private static void eightShelves() {
        SideBySide x = new SideBySide();
        for (int d = 0; d < 8; d++) {
            check.due("keep on " + d, x.keep(d, 1, 6, d + 1), 0);
        }
        for (int d = 0; d < 8; d++) {
            check.due("cost of " + d, x.cost(d), d + 1);
        }
        for (int d = 0; d < 8; d++) {
            check.due("row on " + d, x.row(d, 2, d), 0);
            if (d > 0) {
                check.due("put on " + d, x.put(d, d - 1, 100 + d), 0);
            }
        }
        for (int d = 0; d < 8; d++) {
            check.dueTrue("behind the end of " + d, isState(x, d, d));
            if (d > 0) {
                check.due("element on " + d, at(x, d, d - 1), 100 + d);
            }
        }
        check.due("keep on 8", x.keep(8, 1, 0, 0), -1);
        check.due("keep on -1", x.keep(-1, 1, 0, 0), -1);
        check.due("row on 8", x.row(8, 0, 0), -1);
        check.due("row on -1", x.row(-1, 0, 0), -1);
    }

    /** "each hold nothing (at first)" */
    private static void nothingAtFirst() {
        SideBySide x = new SideBySide();
        for (int d = 0; d < 8; d++) {
            check.due("court", x.court(d), -11);
            check.due("learns", x.learns(d), -11);
            check.due("rally", x.rally(d, 0), -11);
            check.due("put", x.put(d, 0, 0), -11);
            check.due("copy", x.copy(d, 0, d, 0, 0), -11);
            check.due("cost", x.cost(d), -11);
            check.due("toss", x.toss(d), -11);
            check.dueTrue("element", isState(x, d, 0));
        }
    }

    /** "what = 0 nothing (the others do not matter)" */
    private static void nothingWhateverTheOthers() {
        int[] any = {Integer.MIN_VALUE, -1, 0, 7, 8, 9, 10, Integer.MAX_VALUE};
        for (int k : any) {
            for (int figure : any) {
                SideBySide x = new SideBySide();
                x.keep(0, 1, 3, 3);
                check.due("keep nothing", x.keep(0, 0, k, figure), 0);
                check.due("nothing held", x.cost(0), -11);
                boolean taken = k >= 0 && k <= 7 && figure >= 0 && figure <= 9;
                check.due("keep " + k + ", " + figure, x.keep(0, 1, k, figure), taken ? 0 : -1);
                check.due("something held", x.cost(0) == -11 ? 0 : 1, taken ? 1 : 0);
            }
        }
        SideBySide y = new SideBySide();
        check.due("nothing on nothing", y.keep(3, 0, 1, 1), 0);
        y.row(3, 1, 1);
        check.due("nothing on a ROW", y.keep(3, 0, 1, 1), 0);
        check.due("no ROW any more", y.put(3, 0, 0), -11);
    }

    private static void keepOverAll() {
        SideBySide x = new SideBySide();
        x.row(2, 0, 4);
        check.due("a KIND over a ROW", x.keep(2, 1, 1, 4), 0);
        check.due("COST", x.cost(2), 6);
        check.due("no ROW", x.put(2, 0, 0), -12);
        check.due("a ROW over a KIND", x.row(2, 0, 0), 0);
        check.due("no KIND", x.cost(2), -12);
        check.due("no place", x.put(2, 0, 0), -13);
        check.due("a ROW over a ROW", x.row(2, 1, 1), 0);
        check.due("a place", x.put(2, 0, 300), 0);
        check.due("a short", at(x, 2, 0), 300);
    }

    /** "0 .. 100 elements": the empty ROW. */
    private static void rowsOfNone() {
        for (int sort = 0; sort < 3; sort++) {
            SideBySide x = new SideBySide();
            check.due("row of 0", x.row(0, sort, 0), 0);
            check.due("put into it", x.put(0, 0, 1), -13);
            check.due("put ahead of it", x.put(0, -1, 1), -13);
            check.dueTrue("element 0 of it", isState(x, 0, 0));
            check.due("a ROW is something", x.cost(0), -12);
            check.due("copy of 0", x.copy(0, 0, 0, 0, 0), 0);
            check.due("copy of 1", x.copy(0, 0, 0, 0, 1), -13);
            check.due("court", x.court(0), sort == 0 ? -1000 : -12);
            check.due("rally", x.rally(0, 0), 0);
            check.due("forged", x.forged(0), -4);
        }
    }

    private static void rowsOfOne() {
        for (int sort = 0; sort < 3; sort++) {
            SideBySide x = new SideBySide();
            check.due("row of 1", x.row(0, sort, 1), 0);
            check.due("0 at first", at(x, 0, 0), 0);
            check.due("put", x.put(0, 0, 1), 0);
            check.due("put behind", x.put(0, 1, 1), -13);
            check.due("element", at(x, 0, 0), 1);
            check.dueTrue("element behind", isState(x, 0, 1));
            check.dueTrue("element ahead", isState(x, 0, -1));
        }
    }

    /** "0 .. 100 elements": the full ROW. */
    private static void rowsOf100() {
        for (int sort = 0; sort < 3; sort++) {
            SideBySide x = new SideBySide();
            check.due("row of 101", x.row(0, sort, 101), -1);
            check.due("nothing held", x.put(0, 0, 0), -11);
            check.due("row of 100", x.row(0, sort, 100), 0);
            check.due("put at 99", x.put(0, 99, 99), 0);
            check.due("put at 100", x.put(0, 100, 99), -13);
            check.due("element 99", at(x, 0, 99), 99);
            check.due("element 98", at(x, 0, 98), 0);
            check.dueTrue("element 100", isState(x, 0, 100));
            check.due("row of 101 over it", x.row(0, sort, 101), -1);
            check.due("row of -1 over it", x.row(0, sort, -1), -14);
            check.due("element 99 still", at(x, 0, 99), 99);
        }
    }

    /** "0 at first", whatever was on the SHELF. */
    private static void zeroAtFirstAgain() {
        SideBySide x = new SideBySide();
        x.row(0, 2, 100);
        for (int i = 0; i < 100; i++) {
            x.put(0, i, -1);
        }
        x.keep(0, 1, 0, 9);
        x.row(0, 2, 3);
        for (int i = 0; i < 3; i++) {
            check.due("0 behind a KIND", at(x, 0, i), 0);
        }
        x.row(0, 2, 100);
        for (int i = 0; i < 100; i++) {
            check.due("0 in a longer one", at(x, 0, i), 0);
        }
    }

    /** "SORT (0 bytes, 1 shorts, 2 ints)" */
    private static void eachSort() {
        SideBySide x = new SideBySide();
        long[] kept = {112, 4464, 70000};
        for (int sort = 0; sort < 3; sort++) {
            check.due("row of SORT " + sort, x.row(0, sort, 1), 0);
            x.put(0, 0, 70000);
            check.due("element", at(x, 0, 0), kept[sort]);
        }
        check.due("row of SORT 3", x.row(0, 3, 1), -1);
        check.due("row of SORT -1", x.row(0, -1, 1), -1);
        check.due("element still", at(x, 0, 0), 70000);
    }

    /** "what is put in keeps its lowest bits": beside each power of two, of both signs. */
    private static void lowestBits() {
        for (int sort = 0; sort < 3; sort++) {
            SideBySide x = new SideBySide();
            x.row(0, sort, 1);
            for (int bit = 5; bit < 32; bit++) {
                for (int more = -1; more <= 1; more++) {
                    int v = (1 << bit) + more;
                    x.put(0, 0, v);
                    check.due(v + " in SORT " + sort, at(x, 0, 0), lowest(v, BITS[sort]));
                    x.put(0, 0, -v);
                    check.due(-v + " in SORT " + sort, at(x, 0, 0), lowest(-v, BITS[sort]));
                }
            }
        }
    }

    /** By halves of the range: what is left of it, the upper half counted below 0. */
    private static long lowest(int v, int bits) {
        long range = 1L << bits;
        long left = Math.floorMod((long) v, range);
        return left >= range / 2 ? left - range : left;
    }

    private static void everyPlace() {
        SideBySide x = new SideBySide();
        x.row(4, 1, 100);
        for (int i = 0; i < 100; i++) {
            check.due("put at " + i, x.put(4, i, 1000 + i), 0);
        }
        for (int i = 0; i < 100; i++) {
            check.due("element " + i, at(x, 4, i), 1000 + i);
        }
    }

    private static void copyBounds() {
        int[] from = {1, 2, 3, 4, 5};
        for (int n = 0; n <= 6; n++) {
            for (int i = 0; i <= 6; i++) {
                for (int j = 0; j <= 4; j++) {
                    SideBySide x = new SideBySide();
                    Check.row(x, 0, Check.SHORTS, from);
                    Check.row(x, 1, Check.SHORTS, 7, 7, 7);
                    boolean taken = i + n <= 5 && j + n <= 3;
                    String call = "copy(0, " + i + ", 1, " + j + ", " + n + ")";
                    check.due(call, x.copy(0, i, 1, j, n), taken ? n : -13);
                    for (int k = 0; k < 3; k++) {
                        boolean came = taken && k >= j && k < j + n;
                        check.due("element " + k + " by " + call, at(x, 1, k), came ? from[i + k - j] : 7);
                    }
                }
            }
        }
    }

    /** Both in one ROW: what is copied is what was there ahead. */
    private static void copyWithinOne() {
        for (int n = 0; n <= 5; n++) {
            for (int i = 0; i + n <= 5; i++) {
                for (int j = 0; j + n <= 5; j++) {
                    SideBySide x = new SideBySide();
                    Check.row(x, 0, Check.INTS, 1, 2, 3, 4, 5);
                    check.due("copy within", x.copy(0, i, 0, j, n), n);
                    for (int k = 0; k < 5; k++) {
                        check.due("element " + k + ", " + n + " from " + i + " to " + j, at(x, 0, k),
                            k >= j && k < j + n ? i + k - j + 1 : k + 1);
                    }
                }
            }
        }
    }

    private static void copyOf100() {
        SideBySide x = new SideBySide();
        x.row(0, 0, 100);
        x.row(1, 0, 100);
        x.put(0, 0, 5);
        x.put(0, 99, 6);
        check.due("101", x.copy(0, 0, 1, 0, 101), -13);
        check.due("100 from 1", x.copy(0, 1, 1, 0, 100), -13);
        check.due("100 to 1", x.copy(0, 0, 1, 1, 100), -13);
        check.due("nothing yet", at(x, 1, 0) + at(x, 1, 99), 0);
        check.due("100", x.copy(0, 0, 1, 0, 100), 100);
        check.due("the first", at(x, 1, 0), 5);
        check.due("the last", at(x, 1, 99), 6);
        check.due("one from the last to the first", x.copy(0, 99, 1, 0, 1), 1);
        check.due("the first then", at(x, 1, 0), 6);
        check.due("the greatest n", x.copy(0, 0, 1, 0, Integer.MAX_VALUE), -13);
        check.due("the greatest n from 1", x.copy(0, 1, 1, 1, Integer.MAX_VALUE), -13);
        check.due("the least n", x.copy(0, 0, 1, 0, Integer.MIN_VALUE), -13);
        check.due("the greatest i", x.copy(0, Integer.MAX_VALUE, 1, 0, 1), -13);
        check.due("the greatest j", x.copy(0, 0, 1, Integer.MAX_VALUE, 1), -13);
        check.due("the least i", x.copy(0, Integer.MIN_VALUE, 1, 0, 1), -13);
        check.due("the least j", x.copy(0, 0, 1, Integer.MIN_VALUE, 1), -13);
    }

    /** "-13 (n below 0, too)": 0 is not below it. */
    private static void copyOfNone() {
        SideBySide x = new SideBySide();
        Check.row(x, 0, Check.BYTES, 1, 2);
        Check.row(x, 1, Check.BYTES, 3, 4);
        check.due("none", x.copy(0, 0, 1, 0, 0), 0);
        check.due("none, below", x.copy(0, 1, 1, 1, -1), -13);
        check.due("none from ahead", x.copy(0, -1, 1, 0, 0), -13);
        check.due("none to ahead", x.copy(0, 0, 1, -1, 0), -13);
        check.due("first", at(x, 1, 0), 3);
        check.due("second", at(x, 1, 1), 4);
    }

    /** "COST: .. DROP FIGURE more; .. PUSH half of a DROP's, cut; .. BETWEEN FIGURE; WANDER 0" */
    private static void costByFigure() {
        int[] figures = {0, 1, 4, 5, 8, 9};
        int[][] costs = {{2, 2, 2, 2, 2, 2}, {6, 6, 6, 6, 6, 6}, {2, 3, 6, 7, 10, 11}, {1, 1, 1, 1, 1, 1},
            {1, 1, 3, 3, 5, 5}, {3, 3, 3, 3, 3, 3}, {0, 1, 4, 5, 8, 9}, {0, 0, 0, 0, 0, 0}};
        for (int k = 0; k < 8; k++) {
            for (int i = 0; i < figures.length; i++) {
                SideBySide x = new SideBySide();
                x.keep(7, 1, k, figures[i]);
                check.due("COST of KIND " + k + ", FIGURE " + figures[i], x.cost(7), costs[k][i]);
            }
        }
    }

    /** "-15: LIFTS, FLICKS, WANDERS, and any with FIGURE 0, have none"; 1 is the first FIGURE that has one. */
    private static void failureByFigure() {
        int[] figures = {0, 1, 4, 5, 8, 9};
        int[][] failures = {{-15, 1, 4, 5, 8, 9}, {-15, 1, 4, 5, 8, 9}, {-15, 101, 104, 105, 108, 109},
            {-15, -15, -15, -15, -15, -15}, {-15, 201, 203, 203, 205, 205}, {-15, -15, -15, -15, -15, -15},
            {-15, 1, 4, 5, 8, 9}, {-15, -15, -15, -15, -15, -15}};
        for (int k = 0; k < 8; k++) {
            for (int i = 0; i < figures.length; i++) {
                SideBySide x = new SideBySide();
                x.keep(0, 1, k, figures[i]);
                check.due("FAILURE of KIND " + k + ", FIGURE " + figures[i], x.toss(0), failures[k][i]);
                check.due("thrown again", x.toss(0), failures[k][i]);
            }
        }
    }

    /** "what is taken from a SHELF, stay(s) there", and a STROKE stays what it was when the SHELF gets another one. */
    private static void takenStays() {
        SideBySide x = new SideBySide();
        x.keep(1, 1, 2, 9);
        check.due("learns", x.learns(1), 0);
        check.due("COST still", x.cost(1), 11);
        check.due("learns again", x.learns(1), 1);
        x.keep(1, 1, 1, 5);
        check.due("learns another", x.learns(1), 2);
        x.keep(1, 0, 0, 0);
        int[] kinds = {2, 2, 1};
        int[] figures = {9, 9, 5};
        for (int s = 0; s < 3; s++) {
            check.due("KIND of " + s, x.stroke(s, 0), kinds[s]);
            check.due("FIGURE of " + s, x.stroke(s, 1), figures[s]);
        }
    }

    /** "THE IMAGE: all that there is, but SHELVES"; "when THE IMAGE is RESTORED, SHELVES stay as they are" */
    private static void imageLeavesShelves() {
        SideBySide x = new SideBySide();
        x.keep(0, 1, 6, 3);
        x.row(1, 0, 2);
        x.row(2, 2, 1);
        x.image();
        x.keep(0, 1, 6, 4);
        x.row(1, 1, 3);
        x.put(1, 2, 300);
        x.put(2, 0, 1000000);
        x.row(3, 0, 100);
        check.due("restore", x.restore(), 0);
        check.due("COST", x.cost(0), 4);
        check.due("a longer ROW", at(x, 1, 2), 300);
        check.due("an element", at(x, 2, 0), 1000000);
        check.due("a new ROW", at(x, 3, 99), 0);
        x.keep(0, 0, 0, 0);
        x.restore();
        check.due("nothing stays nothing", x.cost(0), -11);
    }

    /** "-3 there is none" */
    private static void imageOfNone() {
        SideBySide x = Check.of("b00;x00;");
        check.due("restore", x.restore(), -3);
        check.due("HITS still", x.count(1), 1);
        check.due("image", x.image(), 1);
        check.due("restore", x.restore(), 1);
        SideBySide y = new SideBySide();
        check.due("image of a new one", y.image(), 0);
        check.due("restored", y.restore(), 0);
        check.due("restored again", y.restore(), 0);
    }

    /** The later image is the one; restoring leaves it. */
    private static void imageTwice() {
        SideBySide x = Check.of("b30;");
        for (int i = 1; i <= 20; i++) {
            x.hit(0, i % 9);
            check.due("image " + i, x.image(), i);
            x.hit(0, 8 - i % 9);
            x.hit(0, i % 5);
            check.due("restore " + i, x.restore(), i);
            check.due("HITS " + i, x.count(1), i);
        }
        x.tires(0, 1);
        check.due("restore", x.restore(), 20);
        check.dueTrue("TIRED as then", x.player(0, 2) != 1);
    }
}
