/** Promises 38 to 44: shelves, rows, cost and failure. */
public final class ShelvesTest {
    private static final int ARGUMENT = 1;
    private static final int STATE = 2;
    private static final Check check = new Check();

    public static void main(String[] args) {
        keep();
        row();
        put();
        element();
        copy();
        copyRefusals();
        costAndToss();
        costAndTossRefusals();
        check.end();
    }

    private static void keep() {
        SideBySide x = new SideBySide();
        check.due("a kind", x.keep(7, 1, 7, 9), 0);
        check.due("COST", x.cost(7), 0);
        check.due("nothing, whatever the others", x.keep(7, 0, -5, 77), 0);
        check.due("nothing held", x.cost(7), -11);
        x.keep(0, 1, 2, 5);
        int[][] refused = {{-1, 0, 0, 0}, {8, 0, 0, 0}, {0, 2, 0, 0}, {0, -1, 0, 0}, {0, 1, 8, 0}, {0, 1, -1, 0},
            {0, 1, 0, 10}, {0, 1, 0, -1}, {8, 1, 0, 0}, {Integer.MIN_VALUE, 0, 0, 0}, {0, Integer.MAX_VALUE, 0, 0}};
        for (int[] one : refused) {
            check.due("keep refused", x.keep(one[0], one[1], one[2], one[3]), -1);
        }
        check.due("it stays", x.toss(0), 105);
        x.row(0, 0, 3);
        check.due("a kind in place of a row", x.keep(0, 1, 0, 1), 0);
        check.due("no row any more", x.put(0, 0, 0), -12);
        check.due("thrown", thrown(x, 0, 0), STATE);
    }

    private static void row() {
        SideBySide x = new SideBySide();
        x.keep(0, 1, 1, 1);
        check.due("row(0, 0, 101)", x.row(0, 0, 101), -1);
        check.due("row(0, 0, -1)", x.row(0, 0, -1), -14);
        check.due("row(0, 0, least)", x.row(0, 0, Integer.MIN_VALUE), -14);
        check.due("row(0, 0, most)", x.row(0, 0, Integer.MAX_VALUE), -1);
        check.due("row(0, 3, 1)", x.row(0, 3, 1), -1);
        check.due("row(0, -1, 1)", x.row(0, -1, 1), -1);
        check.due("row(8, 0, 1)", x.row(8, 0, 1), -1);
        check.due("row(-1, 0, 1)", x.row(-1, 0, 1), -1);
        check.due("-1 goes ahead of -14", x.row(0, 3, -1), -1);
        check.due("-1 goes ahead of -14", x.row(8, 0, -1), -1);
        check.due("the kind stays", x.cost(0), 6);
        check.due("row(0, 2, 100)", x.row(0, 2, 100), 0);
        for (int i = 0; i < 100; i++) {
            check.due("0 at first", x.element(0, i), 0);
            x.put(0, i, -1 - i);
        }
        check.due("row(0, 1, 50)", x.row(0, 1, 50), 0);
        for (int i = 0; i < 50; i++) {
            check.due("0 at first, again", x.element(0, i), 0);
        }
        check.due("no more than 50", thrown(x, 0, 50), STATE);
        check.due("row(0, 0, 0)", x.row(0, 0, 0), 0);
        check.due("no place in it", x.put(0, 0, 0), -13);
        check.due("row(0, 0, 100)", x.row(0, 0, 100), 0);
        check.due("0 at first, the last", x.element(0, 99), 0);
    }

    private static void put() {
        SideBySide x = new SideBySide();
        check.due("put(-1, 0, 0)", x.put(-1, 0, 0), -1);
        check.due("put(8, 0, 0)", x.put(8, 0, 0), -1);
        check.due("put into nothing", x.put(0, 0, 0), -11);
        x.keep(0, 1, 0, 0);
        check.due("put into a kind", x.put(0, 0, 0), -12);
        x.row(0, 0, 3);
        check.due("put(0, 3, 0)", x.put(0, 3, 0), -13);
        check.due("put(0, -1, 0)", x.put(0, -1, 0), -13);
        check.due("put(0, least, 0)", x.put(0, Integer.MIN_VALUE, 0), -13);
        int[] values = {0, 127, 128, 255, 256, -1, -128, -129, 32767, 32768, 65535, 70000, -32769,
            Integer.MAX_VALUE, Integer.MIN_VALUE};
        for (int v : values) {
            long[] due = {(byte) v, (short) v, v};
            for (int sort = 0; sort < 3; sort++) {
                x.row(sort, sort, 2);
                check.due("put", x.put(sort, 1, v), 0);
                check.due("element of sort " + sort + ", " + v, x.element(sort, 1), due[sort]);
                check.due("its neighbour", x.element(sort, 0), 0);
            }
        }
    }

    private static int thrown(SideBySide x, int d, int i) {
        try {
            x.element(d, i);
        } catch (IllegalArgumentException e) {
            return e.getClass() == IllegalArgumentException.class ? ARGUMENT : -1;
        } catch (IllegalStateException e) {
            return e.getClass() == IllegalStateException.class ? STATE : -1;
        }
        return 0;
    }

    private static void element() {
        SideBySide x = new SideBySide();
        check.due("element(-1, 0)", thrown(x, -1, 0), ARGUMENT);
        check.due("element(8, 0)", thrown(x, 8, 0), ARGUMENT);
        check.due("element(least, 0)", thrown(x, Integer.MIN_VALUE, 0), ARGUMENT);
        check.due("element of nothing", thrown(x, 0, 0), STATE);
        x.keep(0, 1, 0, 0);
        check.due("element of a kind", thrown(x, 0, 0), STATE);
        x.row(0, 1, 2);
        check.due("element(0, 2)", thrown(x, 0, 2), STATE);
        check.due("element(0, -1)", thrown(x, 0, -1), STATE);
        check.due("element(0, most)", thrown(x, 0, Integer.MAX_VALUE), STATE);
        check.due("element(0, 1)", thrown(x, 0, 1), 0);
        x.keep(0, 0, 0, 0);
        check.due("element of nothing any more", thrown(x, 0, 0), STATE);
    }

    private static void allOf(String when, SideBySide x, int d, int... due) {
        for (int i = 0; i < due.length; i++) {
            check.due(when + ", element " + i, x.element(d, i), due[i]);
        }
    }

    private static void copy() {
        SideBySide x = new SideBySide();
        for (int sort = 0; sort < 3; sort++) {
            Check.row(x, 0, sort, 1, 2, 3, 4, 5);
            Check.row(x, 1, sort, 9, 9, 9);
            check.due("copy", x.copy(0, 2, 1, 1, 2), 2);
            allOf("copied", x, 1, 9, 3, 4);
            allOf("copied from", x, 0, 1, 2, 3, 4, 5);
            check.due("copy of none", x.copy(0, 5, 1, 3, 0), 0);
            check.due("all of it", x.copy(1, 0, 0, 2, 3), 3);
            allOf("all of it", x, 0, 1, 2, 9, 3, 4);
            check.due("within one row, on", x.copy(0, 0, 0, 1, 4), 4);
            allOf("within one row, on", x, 0, 1, 1, 2, 9, 3);
            check.due("within one row, back", x.copy(0, 1, 0, 0, 4), 4);
            allOf("within one row, back", x, 0, 1, 2, 9, 3, 3);
        }
    }

    private static void copyRefusals() {
        SideBySide x = new SideBySide();
        Check.row(x, 0, 1, 1, 2, 3);
        Check.row(x, 1, 1, 4, 5);
        Check.row(x, 2, 0, 4, 5);
        x.keep(3, 1, 0, 0);
        check.due("copy(-1, ..)", x.copy(-1, 0, 1, 0, 1), -1);
        check.due("copy(8, ..)", x.copy(8, 0, 1, 0, 1), -1);
        check.due("copy to -1", x.copy(0, 0, -1, 0, 1), -1);
        check.due("copy to 8", x.copy(0, 0, 8, 0, 1), -1);
        check.due("-1 goes ahead of -11", x.copy(4, 0, 8, 0, 1), -1);
        check.due("from nothing", x.copy(4, 0, 1, 0, 1), -11);
        check.due("to nothing", x.copy(0, 0, 4, 0, 1), -11);
        check.due("-11 goes ahead of -12", x.copy(3, 0, 4, 0, 1), -11);
        check.due("from a kind", x.copy(3, 0, 1, 0, 1), -12);
        check.due("to a kind", x.copy(0, 0, 3, 0, 1), -12);
        check.due("from a kind to itself", x.copy(3, 0, 3, 0, 0), -12);
        check.due("of another sort", x.copy(0, 0, 2, 0, 1), -12);
        check.due("-12 goes ahead of -13", x.copy(0, 9, 2, 0, 1), -12);
        int[][] places = {{-1, 0, 1}, {0, -1, 1}, {0, 0, -1}, {3, 0, 1}, {0, 2, 1}, {2, 0, 2}, {0, 1, 2}, {0, 0, 3},
            {4, 0, 0}, {0, 3, 0}, {-1, 0, 0}, {1, 0, Integer.MAX_VALUE}, {Integer.MAX_VALUE, 0, 1},
            {0, Integer.MAX_VALUE, Integer.MAX_VALUE}, {0, 0, Integer.MIN_VALUE}, {Integer.MIN_VALUE, 0, 1}};
        for (int[] one : places) {
            check.due("no such place " + one[0] + ", " + one[1] + ", " + one[2], x.copy(0, one[0], 1, one[1], one[2]), -13);
        }
        allOf("nothing changed", x, 0, 1, 2, 3);
        allOf("nothing changed", x, 1, 4, 5);
    }

    private static void costAndToss() {
        SideBySide x = new SideBySide();
        for (int f = 0; f < 10; f++) {
            int[] cost = {2, 6, 2 + f, 1, (2 + f) / 2, 3, f, 0};
            int[] toss = {f, f, 100 + f, -15, 200 + (2 + f) / 2, -15, f, -15};
            for (int k = 0; k < 8; k++) {
                x.keep(5, 1, k, f);
                check.due("cost of " + k + ", " + f, x.cost(5), cost[k]);
                check.due("toss of " + k + ", " + f, x.toss(5), f == 0 ? -15 : toss[k]);
            }
        }
        check.due("it stays", x.cost(5), 0);
    }

    private static void costAndTossRefusals() {
        SideBySide x = new SideBySide();
        check.due("cost(-1)", x.cost(-1), -1);
        check.due("cost(8)", x.cost(8), -1);
        check.due("toss(-1)", x.toss(-1), -1);
        check.due("toss(8)", x.toss(8), -1);
        check.due("cost of nothing", x.cost(0), -11);
        check.due("toss of nothing", x.toss(0), -11);
        x.row(0, 0, 0);
        check.due("cost of a row", x.cost(0), -12);
        check.due("toss of a row", x.toss(0), -12);
    }
}
