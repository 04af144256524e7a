/** Promises 27 to 31: which stroke, which draught, which habit it was, two sides who choose, odds, the mean. */
public final class WhichTest {
    private static final int NO = 1000000001;
    private static final Check check = new Check();

    public static void main(String[] args) {
        kinds();
        draughtsOfOne();
        skippedNumbers();
        whatIsRefusals();
        habits();
        habitsRefusals();
        two();
        draughts();
        draughtsRefusals();
        mean();
        check.end();
    }

    private static int kindsOf(SideBySide x, int... cells) {
        Check.row(x, 0, Check.BYTES, cells);
        return x.whatIs(0, 0, 0);
    }

    private static void kinds() {
        SideBySide x = Check.of("b00;");
        check.due("just as hit", kindsOf(x, 0, 1, 2, 3, 4, 5, 6, 7, 8), 255 - 64);
        check.due("the middle", kindsOf(x, 1, 1, 1, 4, 4, 4, 7, 7, 7), 64);
        check.due("the middle to the middle", kindsOf(x, -128, 1), 255);
        check.due("none", kindsOf(x, 1, 2, 2), 0);
        check.due("no numbers", kindsOf(x), 255);
        check.due("the last is not so", kindsOf(x, 0, 1, 2, 3, 4, 5, 6, 7, 7), 0);
        x.blows(2);
        check.due("just as hit, in a draught", kindsOf(x, 0, 1, 2, 3, 4, 5, 6, 7, 8), 63);
        check.due("wandered", kindsOf(x, 1, 2, 2, 4, 5, 5), 128);
        check.due("between or wandered", kindsOf(x, 1), 64 + 128);
        x.blows(0);
        check.due("wandered back", kindsOf(x, 0, 0, 1), 128);
        check.due("no cell", kindsOf(x, 9), 0);
        check.due("below", kindsOf(x, -1), 0);
    }

    private static int draughtsOf(SideBySide x, int stroke, int... cells) {
        Check.row(x, 0, Check.SHORTS, cells);
        return x.whatIs(0, stroke, 1);
    }

    private static void draughtsOfOne() {
        SideBySide x = Check.of("b70;b00;b69;");
        for (int v = 0; v < 3; v++) {
            x.blows(v);
            check.due("-1", draughtsOf(x, 0, 0, 0, 1), 1);
            check.due("0", draughtsOf(x, 0, 0, 1, 2), 2);
            check.due("1", draughtsOf(x, 0, 1, 2, 2), 4);
            check.due("-1 or 0", draughtsOf(x, 0, 0), 3);
            check.due("0 or 1", draughtsOf(x, 0, -32768, -32768, 2), 6);
            check.due("none", draughtsOf(x, 0, 2), 0);
            check.due("any", draughtsOf(x, 0), 7);
            check.due("a stroke does not wander", draughtsOf(x, 1, 0, 1, 2), 7);
            check.due("a stroke did not wander", draughtsOf(x, 1, 1), 0);
            check.due("between", draughtsOf(x, 2, 1, 1, 1, 4), 7);
        }
        check.due("the draught stays", x.count(3), 2);
    }

    private static void skippedNumbers() {
        SideBySide x = Check.of("b00;");
        int[] least = {-128, -32768, Integer.MIN_VALUE};
        for (int sort = 0; sort < 3; sort++) {
            Check.row(x, 0, sort, least[sort], 1, least[sort]);
            check.due("skipped, sort " + sort, x.whatIs(0, 0, 0), 255);
            Check.row(x, 0, sort, least[sort] + 1);
            check.due("not skipped, sort " + sort, x.whatIs(0, 0, 0), 0);
        }
        Check.row(x, 0, Check.SHORTS, -128);
        check.due("the least byte among shorts", x.whatIs(0, 0, 0), 0);
        Check.row(x, 0, Check.INTS, -32768);
        check.due("the least short among ints", x.whatIs(0, 0, 1), 0);
    }

    private static void whatIsRefusals() {
        SideBySide x = Check.of("b00;");
        check.due("whatIs(-1, 0, 0)", x.whatIs(-1, 0, 0), -1);
        check.due("whatIs(8, 0, 0)", x.whatIs(8, 0, 0), -1);
        check.due("whatIs(0, 1, 0)", x.whatIs(0, 1, 0), -1);
        check.due("whatIs(0, -1, 0)", x.whatIs(0, -1, 0), -1);
        check.due("whatIs(0, 0, 2)", x.whatIs(0, 0, 2), -1);
        check.due("whatIs(0, 0, -1)", x.whatIs(0, 0, -1), -1);
        check.due("nothing held", x.whatIs(0, 0, 0), -11);
        x.keep(0, 1, 7, 7);
        check.due("a kind", x.whatIs(0, 0, 1), -12);
        x.row(0, 1, 10);
        check.due("10 numbers", x.whatIs(0, 0, 0), -13);
        check.due("10 numbers", x.whatIs(0, 0, 1), -13);
        x.row(0, 1, 9);
        check.due("9 numbers", x.whatIs(0, 0, 0), 0);
    }

    private static int habitsOf(SideBySide x, int... whose) {
        Check.row(x, 0, Check.BYTES, whose);
        return x.habits(0);
    }

    private static void habits() {
        SideBySide x = Check.of("b00;h13;");
        check.due("the lesser number's", habitsOf(x, 2, 2, 2, 2, 2, 2, 3, 3, 3), 6);
        check.due("nobody's", habitsOf(x, 2, 2, 2, 9, 9, 9, 3, 3, 3), 9);
        check.due("skipped", habitsOf(x, 2, 2, 2, -128, -128, -128, 3, 3, 3), 15);
        check.due("no numbers", habitsOf(x), 15);
        check.due("now so, now so", habitsOf(x, 2, 2, 2, 2, 9), 0);
        check.due("of the side that has it", habitsOf(x, 0), 0);
        x.hands(3);
        check.due("the left-handed one's", habitsOf(x, 2, 2, 2, 3, 3), 8);
        check.due("nobody's then", habitsOf(x, 2, 2, 2, 9), 1);
        x.hands(3);
        x.hands(2);
        check.due("the lesser one is left-handed", habitsOf(x, 2, 2, 2, 2), 14);
        check.due("habit stays", x.side(1, 1), 3);
        Check.told(x, "h11;x04;");
        check.due("of side 0", habitsOf(x, 0, 0, 0, 0, 0, 0, 1, 1, 1), 6);
        check.due("habit of 0 stays", x.side(0, 1), 1);
        // Where stroke 0 falls counts.
        SideBySide y = Check.of("b79;d2;");
        check.due("wandered to 8", habitsOf(y, -128, -128, -128, -128, -128, -128, -128, 3), 15);
        SideBySide z = Check.of("b60;");
        check.due("between, alike", habitsOf(z, -128, -128, -128, 9), 9);
    }

    private static void habitsRefusals() {
        SideBySide x = new SideBySide();
        check.due("habits(-1)", x.habits(-1), -1);
        check.due("habits(8)", x.habits(8), -1);
        check.due("nothing held", x.habits(0), -11);
        x.keep(0, 1, 0, 0);
        check.due("a kind", x.habits(0), -12);
        x.row(0, 0, 10);
        check.due("10 numbers", x.habits(0), -13);
        x.row(0, 0, 9);
        check.due("no strokes", x.habits(0), -3);
        x.row(0, 0, 0);
        check.due("no strokes, no numbers", x.habits(0), -3);
    }

    private static void two() {
        check.due("no strokes", new SideBySide().two(), -3);
        SideBySide x = Check.of("b00;p211;p311;h10;");
        check.due("a point at once, whatever they choose", x.two(), 0);
        // One hit to CELL 0 that 2 gets, then 3's place is all that FORM changes of side 1.
        SideBySide y = Check.of("b19;");
        check.due("first pair", y.two(), firstPair(y));
        String[] courts = {"b00;f01;", "b30;f11;", "b19;p071;p111;", "b14;p201;p341;p001;p141;", "b00;h02;h12;",
            "b19;p054;p131;p201;p382;", "b10;p034;p182;p262;p311;t045;", "b55;p084;p101;p233;p311;t299;h13;l2;"};
        for (String court : courts) {
            SideBySide z = Check.of(court);
            check.due("two of " + court, z.two(), firstPair(z));
        }
    }

    /** By hits on objects of their own, as the document tells it. */
    private static int firstPair(SideBySide x) {
        long[][][] have = new long[2][2][2];
        for (int a = 0; a < 2; a++) {
            for (int b = 0; b < 2; b++) {
                x.image();
                x.forms(0, 0, a);
                x.forms(1, 0, b);
                int was = x.side(0, 2) + x.side(1, 2);
                int first = x.side(0, 2);
                for (int i = 0; i < 6 && x.side(0, 2) + x.side(1, 2) == was; i++) {
                    x.hit(0, i % 2 * 8);
                }
                int more = x.side(0, 2) + x.side(1, 2) - was;
                int mine = x.side(0, 2) - first;
                have[a][b][0] = x.player(0, 2) + x.player(1, 2) - 9 * mine;
                have[a][b][1] = x.player(2, 2) + x.player(3, 2) - 9 * (more - mine);
                x.restore();
            }
        }
        for (int a = 0; a < 2; a++) {
            for (int b = 0; b < 2; b++) {
                if (have[a][b][0] <= have[1 - a][b][0] && have[a][b][1] <= have[a][1 - b][1]) {
                    return 10 * a + b;
                }
            }
        }
        return -4;
    }

    private static void fraction(SideBySide x, String when, int n, int t, long above, long below) {
        check.due("above, " + when, x.draughts(n, t, 0), above);
        check.due("below, " + when, x.draughts(n, t, 1), below);
    }

    private static void draughts() {
        fraction(new SideBySide(), "no hits", 0, 2, 1, 1);
        // Only when the draught blows is it somebody's.
        SideBySide x = Check.of("b70;b70;d0;h10;p201;p321;");
        fraction(x, "one hit", 1, 2, 1, 2);
        fraction(x, "one hit of 20", 1, 20, 1, 20);
        fraction(x, "in least terms", 2, 6, 1, 6);
        // So it is of both sides then.
        SideBySide y = Check.of("b70;b70;b70;b70;b70;d0;h10;p201;p321;h00;p001;p121;");
        fraction(y, "two hits", 2, 3, 1, 9);
        fraction(y, "three hits", 3, 20, 1, 400);
        fraction(y, "five hits", 5, 20, 1, 400);
        // Only when it does not blow is it somebody's.
        SideBySide z = Check.of("b70;d0;h10;p211;p351;");
        fraction(z, "not blown", 1, 20, 19, 20);
        fraction(z, "not blown", 1, 2, 1, 2);
        z.blows(2);
        fraction(z, "it blows anyway", 1, 7, 0, 1);
        z.forms(1, 1, 1);
        fraction(z, "always got", 1, 7, 1, 1);
        check.due("the draught stays", z.count(3), 2);
        // STROKES 0, 1, .. in their order: the second one alone makes the point.
        SideBySide w = Check.of("b30;b19;p081;p161;");
        fraction(w, "the first", 1, 5, 1, 1);
        fraction(w, "the second", 2, 5, 0, 1);
    }

    private static void draughtsRefusals() {
        SideBySide x = Check.of("b00;b00;b00;b00;b00;b00;");
        int[][] refused = {{-1, 2, 0}, {6, 2, 0}, {1, 1, 0}, {1, 21, 0}, {1, 0, 0}, {1, -2, 0}, {1, 2, 2}, {1, 2, -1},
            {Integer.MAX_VALUE, 2, 0}, {Integer.MIN_VALUE, 2, 0}, {1, Integer.MAX_VALUE, 0}, {1, 2, Integer.MAX_VALUE}};
        for (int[] one : refused) {
            check.due("draughts refused", x.draughts(one[0], one[1], one[2]), NO);
        }
        check.due("5 of 6", x.draughts(5, 2, 0), 1);
        SideBySide y = Check.of("b00;");
        check.due("more than strokes", y.draughts(2, 2, 0), NO);
        check.due("as many as strokes", y.draughts(1, 2, 0), 1);
    }

    private static void mean() {
        SideBySide x = new SideBySide();
        int[][] due = {{0, 0, 1}, {1, 1, 4}, {2, 1, 2}, {3, 3, 4}, {4, 1, 1}, {10, 5, 2}, {99, 99, 4}};
        for (int[] one : due) {
            x.tires(2, one[0]);
            check.due("above of " + one[0], x.mean(0), one[1]);
            check.due("below of " + one[0], x.mean(1), one[2]);
        }
        Check.told(x, "t099;t199;t299;t399;");
        check.due("all at 99", x.mean(0), 99);
        check.due("all at 99, below", x.mean(1), 1);
        check.due("mean(2)", x.mean(2), NO);
        check.due("mean(-1)", x.mean(-1), NO);
    }
}
