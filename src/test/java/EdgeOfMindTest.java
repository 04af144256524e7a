import java.math.BigInteger;

/**
 * The bounds of what ==== II. tells: none, the first and the last, of several the least, empty rows and full ones,
 * n and t of DRAUGHTS, n of NIGHTS, the wrap-around of a DRAW's int, the skipped least number of a SORT.
 */
public final class EdgeOfMindTest {
    private static final int[] LEAST = {-128, -32768, Integer.MIN_VALUE};
    // CELL 8 alone is four CELLS off then.
    private static final String CORNER = "p201;p301;";
    private static final Check check = new Check();

    public static void main(String[] args) {
        openNoneAndAll();
        forcedFirstAndLast();
        farthestLeastOfSeveral();
        atWhomLeastOfSeveral();
        fewestOneThreeNone();
        fewestFirstAndLast();
        bestFromNoneToNine();
        bestHabitLeastOfSeveral();
        bestOfWhoHasItNot();
        emptyRally();
        fullRally();
        fullRallyWithAPointAtTheEnd();
        rallyUnwhole();
        rallyOfNoSuchHits();
        forgedFirstAndLast();
        spentLeastOfSeveral();
        whatIsOfNoneToNine();
        whatIsSkips();
        whatIsLastNumber();
        habitsOfNoneToNine();
        habitsSkip();
        twoTillSixOrAPoint();
        draughtsN();
        draughtsT();
        draughtsNoneAndAll();
        draughtOfNow();
        meanNoneAndAll();
        judgedNoneAndFull();
        judgedSkips();
        nightsN();
        nightsSeeds();
        nightsGoOn();
        check.end();
    }

    // ---- whose it is

    private static void openNoneAndAll() {
        check.due("none", Check.of("b30;").open(0), 0);
        check.due("the last one alone", Check.of("b00;" + CORNER).open(0), 256);
        check.due("the first one alone", Check.of("b00;p281;p381;").open(0), 1);
        check.due("all", Check.of("b30;h10;" + CORNER).open(0), 511);
        check.due("the last STROKE", Check.of("b30;".repeat(7) + "b00;" + CORNER).open(7), 256);
        check.due("the others", Check.of("b30;".repeat(7) + "b00;" + CORNER).open(6), 0);
    }

    /** "FORCED: a STROKE and a CELL (10 the one and the CELL) that do, of several the first; -4" */
    private static void forcedFirstAndLast() {
        check.due("none", Check.of("b30;").forced(), -4);
        check.due("no STROKES", new SideBySide().forced(), -4);
        check.due("the very first", Check.of("b30;h10;" + CORNER).forced(), 0);
        check.due("the very last", Check.of("b30;".repeat(7) + "b00;" + CORNER).forced(), 78);
        check.due("the first STROKE", Check.of("b00;".repeat(8) + CORNER).forced(), 8);
        check.due("the STROKE goes ahead of the CELL", Check.of("b00;b19;" + CORNER).forced(), 8);
        check.due("the first CELL", Check.of("b30;b19;" + CORNER).forced(), 12);
    }

    /** "FARTHEST: .. of several the least (nobody's counts 99); that" */
    private static void farthestLeastOfSeveral() {
        String[] courts = {CORNER, "p281;p381;", "p241;p341;", "p201;p381;", "h10;p241;p341;", "h10;p211;p371;"};
        int[] cells = {8, 0, 0, 2, 0, 3};
        int[] ways = {4, 4, 2, 2, 99, 99};
        for (int i = 0; i < courts.length; i++) {
            SideBySide x = Check.of("b00;" + courts[i]);
            check.due("the CELL, " + courts[i], x.farthest(0, 0), cells[i]);
            check.due("the WAY, " + courts[i], x.farthest(0, 1), ways[i]);
        }
    }

    /** "AT WHOM: .. most TIRED then, of several the least; -4 nobody gets any" */
    private static void atWhomLeastOfSeveral() {
        check.due("nobody gets any", Check.of("b30;h10;" + CORNER).atWhom(0), -4);
        check.due("all at 99", Check.of("b30;t299;t399;").atWhom(0), 0);
        check.due("0 of all", Check.of("b69;p271;p341;").atWhom(0), 0);
        check.due("the farthest of all", Check.of("b30;" + CORNER).atWhom(0), 8);
        check.due("8 is not got", Check.of("b00;" + CORNER).atWhom(0), 5);
        check.due("98 and 1, 98 and 2", Check.of("b30;t298;p201;p301;").atWhom(0), 1);
        check.due("the first got alone", Check.of("b19;p281;p371;t399;t299;").atWhom(0), 4);
    }

    /** "the fewest HITS (1 .. 3) ..; -4" */
    private static void fewestOneThreeNone() {
        SideBySide x = Check.of("b00;" + CORNER);
        check.due("one", x.fewest(0), 1);
        check.due("its first HIT", x.fewest(1), 8);
        SideBySide y = Check.of("b00;h10;p204;p374;");
        check.due("three", y.fewest(0), 3);
        check.due("its first HIT", y.fewest(1), 3);
        SideBySide z = Check.of("b30;");
        check.due("none", z.fewest(0), -4);
        check.due("no first HIT", z.fewest(1), -4);
    }

    /** "the first HIT of the first such (10 the STROKE and the CELL; in their order)" */
    private static void fewestFirstAndLast() {
        check.due("the very first", Check.of("b30;h10;" + CORNER).fewest(1), 0);
        check.due("the very last", Check.of("b30;".repeat(7) + "b00;" + CORNER).fewest(1), 78);
        // One at once is fewer than three by an earlier HIT.
        SideBySide x = Check.of("b30;b19;h10;p204;p364;");
        check.due("one", x.fewest(0), 1);
        check.due("its first HIT", x.fewest(1), x.forced());
    }

    /** "by most CELLS c .., of several the least; how many": 0 to 9. */
    private static void bestFromNoneToNine() {
        for (int s = 0; s < 2; s++) {
            String lost = "b00;h" + s + "0;p" + 2 * s + "11;p" + (2 * s + 1) + "11;";
            check.due("no CELL", Check.of(lost).bestForm(s, 1), 0);
            check.due("the least FORM", Check.of(lost).bestForm(s, 0), 0);
            check.due("the least FORM, FORM 1 now", Check.of(lost + "f" + s + "1;").bestForm(s, 0), 0);
            check.due("all CELLS", Check.of("b30;").bestForm(s, 1), 9);
            check.due("the least FORM", Check.of("b30;f" + s + "1;").bestForm(s, 0), 0);
        }
    }

    private static void bestHabitLeastOfSeveral() {
        for (int s = 0; s < 2; s++) {
            String corner = "p" + 2 * s + "01;p" + (2 * s + 1) + "01;";
            check.due("1 is the least that holds all", Check.of("b30;" + corner).bestHabit(s, 0), 1);
            check.due("all CELLS", Check.of("b30;" + corner).bestHabit(s, 1), 9);
            check.due("HABIT 3 now", Check.of("b30;h03;h13;" + corner).bestHabit(s, 0), 1);
            check.due("LEFT ones too", Check.of("b30;l0;l2;" + corner).bestHabit(s, 0), 1);
            // From a corner with one step CELLS 0, 1, 3 are got, but then 8, 7, 5 are not.
            check.due("none held", Check.of("b19;" + corner).bestHabit(s, 1), 0);
            check.due("of none the least", Check.of("b19;" + corner).bestHabit(s, 0), 0);
            // The other SIDE's HABIT 0 loses it what is hit to CELL 4: the three are held then.
            String lost = "h" + (1 - s) + "0;";
            check.due("three held", Check.of("b19;" + corner + lost).bestHabit(s, 1), 3);
            check.due("the least that holds them", Check.of("b19;" + corner + lost).bestHabit(s, 0), 1);
        }
    }

    /** "the other one having it now (its lesser number, if it has it not)" */
    private static void bestOfWhoHasItNot() {
        String court = "p002;p101;p202;p302;t228;t328;";
        // 2 hits, is 33 TIRED and does not get what comes back to CELL 4: the six CELLS that 0 gets are held.
        SideBySide x = Check.of("b19;" + court);
        check.due("0 has it, so 2 in mind", x.bestForm(0, 1), 6);
        check.due("FORM", x.bestForm(0, 0), 0);
        check.due("0 has it still", x.count(2), 0);
        // 3 hits, and 2 gets what comes back: CELL 8 then is too far, when CELL 0 was the first.
        SideBySide y = Check.of("b19;p384;x08;" + court);
        check.due("3 has it", y.count(2), 3);
        check.due("3 in mind too", y.bestForm(0, 1), 5);
        check.due("FORM", y.bestForm(0, 0), 0);
        check.due("3 has it still", y.count(2), 3);
        // Whoever of the four has it now: of the SIDE in the corner 6 CELLS are held, of the other one 7.
        String[] given = {"", "x14;x17;", "x14;", "x17;"};
        for (int s = 0; s < 2; s++) {
            String corner = "p" + 2 * s + "01;p" + (2 * s + 1) + "81;";
            for (int p = 0; p < 4; p++) {
                SideBySide z = Check.of("b19;b30;" + given[p] + "p011;p171;p211;p371;t000;t100;t200;t300;" + corner);
                check.due("who HAS it", z.count(2), p);
                check.due("FORM of " + s + " when " + p + " HAS it", z.bestForm(s, 1), 6);
                check.due("FORM of the other SIDE when " + p + " HAS it", z.bestForm(1 - s, 1), 7);
                check.due("HABIT of " + s + " when " + p + " HAS it", z.bestHabit(s, 1), 6);
            }
        }
    }

    // ---- rallies

    private static void emptyRally() {
        for (int sort = 0; sort < 3; sort++) {
            SideBySide x = Check.of("b00;t103;t203;");
            x.row(0, sort, 0);
            check.due("no HITS", x.rally(0, 0), 0);
            check.due("no SIDE", x.rally(0, 1), 2);
            for (int p = 0; p < 4; p++) {
                check.due("no WAYS", x.ways(0, p), 0);
            }
            check.due("as TIRED as now, the least", x.spent(0), 1);
            check.due("none is forged", x.forged(0), -4);
        }
    }

    /** HITS of a full ROW: by turns to CELLS 0 and 8, of STROKE 0, but for the one told. */
    private static int[] byTurns(int size, int other, int stroke, int cell) {
        int[] told = new int[size];
        for (int i = 0; i + 1 < size; i += 2) {
            told[i] = i / 2 == other ? stroke : 0;
            told[i + 1] = i / 2 == other ? cell : i / 2 % 2 * 8;
        }
        return told;
    }

    /** A ROW of 100 elements: 50 HITS. */
    private static void fullRally() {
        for (int sort = 0; sort < 3; sort++) {
            SideBySide x = Check.of("b30;b19;");
            Check.row(x, 0, sort, byTurns(100, -1, 0, 0));
            check.due("50 HITS", x.rally(0, 0), 50);
            check.due("no POINT", x.rally(0, 1), 2);
            int[] ways = {2, 1, 1, 2};
            for (int p = 0; p < 4; p++) {
                check.due("WAYS of " + p, x.ways(0, p), ways[p]);
            }
            check.due("most TIRED", x.spent(0), 2);
            check.due("none is forged", x.forged(0), -4);
        }
    }

    private static void fullRallyWithAPointAtTheEnd() {
        SideBySide x = Check.of("b30;b19;");
        Check.row(x, 0, Check.BYTES, byTurns(100, 49, 1, 2));
        check.due("the last of 50", x.rally(0, 0), 50);
        check.due("by SIDE 1", x.rally(0, 1), 1);
        check.due("none is forged", x.forged(0), -4);
        Check.row(x, 0, Check.BYTES, byTurns(100, 48, 1, 6));
        check.due("the last but one", x.rally(0, 0), 49);
        check.due("by SIDE 0", x.rally(0, 1), 0);
        check.due("the last is forged", x.forged(0), 49);
        Check.row(x, 0, Check.BYTES, byTurns(100, 0, 1, 3));
        check.due("the first", x.rally(0, 0), 1);
        check.due("by SIDE 0", x.rally(0, 1), 0);
        check.due("the second is forged", x.forged(0), 1);
        check.due("nobody has gone", x.ways(0, 0) + x.ways(0, 1) + x.ways(0, 2) + x.ways(0, 3), 0);
    }

    /** "-13 (unwhole ..)" */
    private static void rallyUnwhole() {
        for (int size : new int[] {1, 3, 99}) {
            SideBySide x = Check.of("b30;");
            Check.row(x, 0, Check.SHORTS, new int[size]);
            check.due("rally of " + size, x.rally(0, 0), -13);
            check.due("ways of " + size, x.ways(0, 0), -13);
            check.due("spent of " + size, x.spent(0), -13);
            check.due("forged of " + size, x.forged(0), -13);
        }
        for (int size : new int[] {2, 4, 98, 100}) {
            SideBySide x = Check.of("b30;");
            Check.row(x, 0, Check.SHORTS, new int[size]);
            check.due("rally of " + size, x.rally(0, 0), size / 2);
            check.due("ways of " + size, x.ways(0, 2), 1);
            check.dueTrue("spent of " + size, x.spent(0) >= 0);
            check.due("forged of " + size, x.forged(0), -4);
        }
    }

    /** "-13 (.. no such STROKE, CELL)": in the first HIT and in the last. */
    private static void rallyOfNoSuchHits() {
        int[][] none = {{2, 0}, {-1, 0}, {0, 9}, {0, -1}, {-128, 0}, {0, 127}, {8, 0}};
        for (int[] hit : none) {
            for (int place : new int[] {0, 1, 49}) {
                SideBySide x = Check.of("b30;b19;");
                Check.row(x, 0, Check.BYTES, byTurns(100, place, hit[0], hit[1]));
                check.due("rally", x.rally(0, 0), -13);
                check.due("rally's SIDE", x.rally(0, 1), -13);
                check.due("ways", x.ways(0, 3), -13);
                check.due("spent", x.spent(0), -13);
                check.due("forged", x.forged(0), place);
            }
        }
        int[][] such = {{1, 0}, {0, 8}, {0, 0}, {1, 8}};
        for (int[] hit : such) {
            SideBySide x = Check.of("b30;b30;");
            Check.row(x, 0, Check.BYTES, byTurns(100, 49, hit[0], hit[1]));
            check.due("rally", x.rally(0, 0), 50);
            check.due("forged", x.forged(0), -4);
        }
    }

    /** "FORGED: the first that can not be (no such STROKE, CELL; one behind a POINT, too); -4" */
    private static void forgedFirstAndLast() {
        SideBySide x = Check.of("b30;b19;");
        Check.row(x, 0, Check.INTS, 0, 0, 0, 8, 1, 6, 0, 0);
        check.due("behind a POINT", x.forged(0), 3);
        Check.row(x, 0, Check.INTS, 0, 0, 0, 8, 1, 6);
        check.due("nothing behind the POINT", x.forged(0), -4);
        Check.row(x, 0, Check.INTS, 0, 0, 0, 9, 1, 6, 0, 0);
        check.due("no such CELL ahead of it", x.forged(0), 1);
        Check.row(x, 0, Check.INTS, 2, 0);
        check.due("no such STROKE", x.forged(0), 0);
        Check.row(x, 0, Check.INTS, 1, 8);
        check.due("the last STROKE, the last CELL", x.forged(0), -4);
        Check.row(x, 0, Check.INTS, Integer.MAX_VALUE, 0);
        check.due("the greatest", x.forged(0), 0);
        Check.row(x, 0, Check.INTS, 0, Integer.MIN_VALUE);
        check.due("the least is not skipped", x.forged(0), 0);
    }

    private static void spentLeastOfSeveral() {
        String[] courts = {"", "t101;t201;t301;", "t201;t301;", "t301;", "t001;t101;t201;t301;", "t099;t399;", "t098;t399;"};
        int[] due = {0, 1, 2, 3, 0, 0, 3};
        for (int i = 0; i < courts.length; i++) {
            SideBySide x = Check.of("b00;" + courts[i]);
            x.row(0, 0, 0);
            check.due("spent, " + courts[i], x.spent(0), due[i]);
        }
    }

    // ---- which it was

    /** "-13 more than 9 numbers" */
    private static void whatIsOfNoneToNine() {
        for (int sort = 0; sort < 3; sort++) {
            for (int n = 0; n <= 10; n++) {
                SideBySide x = Check.of("b00;");
                x.row(0, sort, n);
                for (int i = 0; i < n; i++) {
                    x.put(0, i, i);
                }
                int kinds = n == 0 ? 255 : 255 - 64;
                check.due("KINDS of " + n, x.whatIs(0, 0, 0), n > 9 ? -13 : kinds);
                check.due("DRAUGHTS of " + n, x.whatIs(0, 0, 1), n > 9 ? -13 : 7);
                x.row(0, sort, 100);
                check.due("KINDS of 100", x.whatIs(0, 0, 0), -13);
            }
        }
    }

    /** "(the least number of the SORT is skipped)": just that. */
    private static void whatIsSkips() {
        for (int sort = 0; sort < 3; sort++) {
            SideBySide x = Check.of("b70;b60;");
            Check.row(x, 0, sort, LEAST[sort], LEAST[sort], LEAST[sort]);
            check.due("all skipped", x.whatIs(0, 0, 0), 255);
            check.due("all skipped", x.whatIs(0, 0, 1), 7);
            x.put(0, 0, LEAST[sort] + 1);
            check.due("one more is not skipped", x.whatIs(0, 0, 0), 0);
            check.due("one more is not skipped", x.whatIs(0, 0, 1), 0);
            x.put(0, 0, LEAST[sort]);
            x.put(0, 2, 1);
            check.due("2 to 1: between, or blown back", x.whatIs(0, 0, 0), 64);
            check.due("2 to 1 by a WANDER", x.whatIs(0, 0, 1), 1);
            check.due("2 to 1 by a BETWEEN", x.whatIs(0, 1, 1), 7);
            for (int other = 0; other < 3; other++) {
                x.put(0, 2, LEAST[other]);
                boolean skipped = x.element(0, 2) == LEAST[sort];
                check.due("least of " + other + " among " + sort, x.whatIs(0, 0, 0), skipped ? 255 : 0);
            }
        }
    }

    private static void whatIsLastNumber() {
        SideBySide x = Check.of("b70;b00;d0;");
        Check.row(x, 0, Check.BYTES, 0, 0, 1, 3, 3, 4, 6, 6, 7);
        check.due("all nine blown", x.whatIs(0, 0, 0), 128);
        check.due("all nine by -1", x.whatIs(0, 0, 1), 1);
        check.due("not a STROKE", x.whatIs(0, 1, 1), 0);
        x.put(0, 8, 8);
        check.due("the last is not so", x.whatIs(0, 0, 0), 0);
        check.due("the last is not so", x.whatIs(0, 0, 1), 0);
        x.put(0, 8, -128);
        check.due("the last is skipped", x.whatIs(0, 0, 0), 128);
        x.put(0, 0, 1);
        check.due("the first is not so", x.whatIs(0, 0, 0), 0);
    }

    private static void habitsOfNoneToNine() {
        int[] whose = {2, 2, 2, 2, 2, 2, 3, 3, 3, 3};
        for (int sort = 0; sort < 3; sort++) {
            for (int n = 0; n <= 10; n++) {
                SideBySide x = Check.of("b00;");
                x.row(0, sort, n);
                for (int i = 0; i < n; i++) {
                    x.put(0, i, whose[i]);
                }
                check.due("HABITS of " + n, x.habits(0), n > 9 ? -13 : n > 3 ? 6 : 15);
            }
        }
    }

    private static void habitsSkip() {
        for (int sort = 0; sort < 3; sort++) {
            SideBySide x = Check.of("b00;");
            Check.row(x, 0, sort, 2, 2, 2, 9, LEAST[sort], LEAST[sort]);
            check.due("nobody's", x.habits(0), 9);
            x.put(0, 3, LEAST[sort]);
            check.due("skipped", x.habits(0), 15);
            x.put(0, 3, LEAST[sort] + 1);
            check.due("one more is not skipped", x.habits(0), 0);
            x.put(0, 3, 3);
            check.due("the greater number's", x.habits(0), 0);
            x.hands(3);
            check.due("the LEFT-handed one's", x.habits(0), 8);
            x.put(0, 5, 2);
            check.due("and the other one's", x.habits(0), 0);
            x.put(0, 5, 8);
            check.due("both's is the lesser number's", x.habits(0), 0);
        }
    }

    /** "6 HITS or till a POINT .. the first pair by which neither has less by another choice alone" */
    private static void twoTillSixOrAPoint() {
        check.due("no STROKES", new SideBySide().two(), -3);
        check.due("a POINT at once", Check.of("b00;h10;p211;p311;").two(), 0);
        check.due("a POINT by the second", Check.of("b00;h00;p011;p111;").two(), 0);
        check.due("six HITS", Check.of("b30;f01;f11;").two(), 0);
        check.due("all at 99", Check.of("b30;t099;t199;t299;t399;").two(), 0);
    }

    /** "n HITS (0 .. 5; no more than STROKES)" */
    private static void draughtsN() {
        for (int strokes = 0; strokes <= 8; strokes++) {
            SideBySide x = Check.of("b30;".repeat(strokes));
            for (int n = -1; n <= 9; n++) {
                boolean taken = n >= 0 && n <= 5 && n <= strokes;
                check.due(n + " of " + strokes + ", above", x.draughts(n, 2, 0), taken ? 1 : 1000000001L);
                check.due(n + " of " + strokes + ", below", x.draughts(n, 2, 1), taken ? 1 : 1000000001L);
            }
        }
    }

    /** "odds 1 in t (2 .. 20)" */
    private static void draughtsT() {
        // Only what the draught carries to the middle ROW's end is got: alike else, and nobody's.
        SideBySide x = Check.of("b70;d0;h10;p201;p321;");
        for (int t = 0; t <= 22; t++) {
            boolean taken = t >= 2 && t <= 20;
            check.due("above, 1 in " + t, x.draughts(1, t, 0), taken ? 1 : 1000000001L);
            check.due("below, 1 in " + t, x.draughts(1, t, 1), taken ? t : 1000000001L);
        }
        SideBySide y = Check.of("b70;d0;h10;p211;p351;");
        check.due("above, not blown 1 in 2", y.draughts(1, 2, 0), 1);
        check.due("below, not blown 1 in 2", y.draughts(1, 2, 1), 2);
        check.due("above, not blown 1 in 20", y.draughts(1, 20, 0), 19);
        check.due("below, not blown 1 in 20", y.draughts(1, 20, 1), 20);
        // The first HIT at each SIDE must not be blown; those behind are got either way.
        SideBySide z = Check.of("b70;".repeat(5) + "d0;h10;h00;p211;p351;p011;p151;");
        for (int t = 2; t <= 20; t++) {
            int[] above = {1, t - 1, (t - 1) * (t - 1), (t - 1) * (t - 1)};
            int[] below = {1, t, t * t, t * t};
            int[] hits = {0, 1, 2, 5};
            for (int i = 0; i < 4; i++) {
                check.due("above, " + hits[i] + " HITS, 1 in " + t, z.draughts(hits[i], t, 0), above[i]);
                check.due("below, " + hits[i] + " HITS, 1 in " + t, z.draughts(hits[i], t, 1), below[i]);
            }
        }
    }

    private static void draughtsNoneAndAll() {
        for (int t = 2; t <= 20; t++) {
            SideBySide x = Check.of("b30;".repeat(5));
            check.due("never a POINT, above", x.draughts(5, t, 0), 1);
            check.due("never a POINT, below", x.draughts(5, t, 1), 1);
            SideBySide y = Check.of("b30;".repeat(5) + "h10;" + CORNER);
            check.due("always a POINT, above", y.draughts(5, t, 0), 0);
            check.due("always a POINT, below", y.draughts(5, t, 1), 1);
            check.due("no HITS, above", y.draughts(0, t, 0), 1);
            check.due("no HITS, below", y.draughts(0, t, 1), 1);
        }
    }

    /** "with DRAUGHT 1 instead of what it is": 1 already, all is as it is. */
    private static void draughtOfNow() {
        for (int t = 2; t <= 20; t += 9) {
            SideBySide x = Check.of("b70;d2;h10;p201;p321;");
            check.due("got anyway, above", x.draughts(1, t, 0), 1);
            check.due("got anyway, below", x.draughts(1, t, 1), 1);
            SideBySide y = Check.of("b70;d1;h10;p201;p321;");
            check.due("carried no farther than COLUMN 2, above", y.draughts(1, t, 0), 1);
            check.due("carried no farther than COLUMN 2, below", y.draughts(1, t, 1), 1);
        }
    }

    /** "MEAN TIRED of the four: a fraction in least terms" */
    private static void meanNoneAndAll() {
        for (int sum = 0; sum <= 396; sum += sum < 12 || sum > 380 ? 1 : 23) {
            SideBySide x = new SideBySide();
            int rest = sum;
            for (int p = 0; p < 4; p++) {
                int his = rest > 99 ? 99 : rest;
                x.tires(p, his);
                rest -= his;
            }
            int by = sum % 4 == 0 ? 4 : sum % 2 == 0 ? 2 : 1;
            check.due("above of " + sum, x.mean(0), sum / by);
            check.due("below of " + sum, x.mean(1), 4 / by);
        }
    }

    // ---- told rallies, nights by seeds

    private static void judgedNoneAndFull() {
        for (int sort = 0; sort < 3; sort++) {
            SideBySide x = Check.of("b30;");
            x.row(0, sort, 0);
            check.due("no numbers", x.judge(0), -4);
            x.row(0, sort, 100);
            check.due("none in 99 HITS", x.judge(0), -4);
            x.put(0, 99, 1);
            check.due("the last of 100", x.judge(0), 99);
            x.put(0, 0, 1);
            check.due("the first of 100", x.judge(0), 0);
        }
        SideBySide y = Check.of("b00;h10;p211;p311;");
        int[] points = new int[100];
        for (int i = 0; i < 100; i++) {
            points[i] = i;
        }
        Check.row(y, 0, Check.BYTES, points);
        check.due("a POINT by each HIT", y.judge(0), -4);
        y.put(0, 99, 98);
        check.due("the last of 100", y.judge(0), 99);
    }

    private static void judgedSkips() {
        for (int sort = 0; sort < 3; sort++) {
            SideBySide x = Check.of("b00;h10;p211;p311;");
            Check.row(x, 0, sort, LEAST[sort], LEAST[sort], 2, LEAST[sort], 4, LEAST[sort]);
            check.due("skipped", x.judge(0), -4);
            x.put(0, 3, LEAST[sort] + 1);
            check.due("one more is not skipped", x.judge(0), 3);
            x.put(0, 0, LEAST[sort] + 1);
            check.due("nor the first", x.judge(0), 0);
            Check.row(x, 0, sort, LEAST[sort], 0);
            check.due("what is skipped is a HIT too", x.judge(0), 1);
        }
    }

    private static final String NIGHT = "b44;b44;b61;b22;b19;p042;p102;p241;p371;h00;h12;f01;";

    /** "n (1 .. 20)" */
    private static void nightsN() {
        SideBySide x = Check.of("b00;p211;p311;h10;");
        for (int n = -1; n <= 22; n++) {
            boolean taken = n >= 1 && n <= 20;
            check.due(n + " nights", x.nights(n, n, 0), taken ? 12 * n : -1);
            check.due(n + " nights of SIDE 1", x.nights(n, n, 1), taken ? 0 : -1);
        }
    }

    private static int drawn(BigInteger z, int n) {
        // An int without its sign's bit: what is left of it modulo 2 to the 31st.
        BigInteger left = z.mod(BigInteger.ONE.shiftLeft(31));
        return left.divide(BigInteger.valueOf(65536)).intValue() % n;
    }

    /** "z becomes z times 1103515245 plus 12345 (an int)": modulo 2 to the 32nd, with a sign. */
    private static BigInteger next(BigInteger z) {
        BigInteger all = z.multiply(BigInteger.valueOf(1103515245)).add(BigInteger.valueOf(12345));
        BigInteger bits = all.mod(BigInteger.ONE.shiftLeft(32));
        return bits.testBit(31) ? bits.subtract(BigInteger.ONE.shiftLeft(32)) : bits;
    }

    /** POINTS of both sides by HITS that are made, a new object for each night. */
    private static int[] playedNights(int n, int seed) {
        BigInteger z = BigInteger.valueOf(seed);
        int[] points = new int[2];
        for (int night = 0; night < n; night++) {
            SideBySide x = Check.of(NIGHT);
            for (int i = 0; i < 12; i++) {
                z = next(z);
                int stroke = drawn(z, 5);
                z = next(z);
                x.hit(stroke, drawn(z, 9));
            }
            points[0] += x.side(0, 2);
            points[1] += x.side(1, 2);
        }
        return points;
    }

    /** "the wrap-around of a DRAW's int": seeds of all signs and sizes. */
    private static void nightsSeeds() {
        int[] seeds = {0, 1, -1, 2, 65535, 65536, Integer.MAX_VALUE, Integer.MIN_VALUE, Integer.MIN_VALUE + 1, -12345,
            0x55555555, 0xaaaaaaaa, 1103515245, -1103515245};
        for (int z : seeds) {
            SideBySide x = Check.of(NIGHT);
            for (int n : new int[] {1, 2, 20}) {
                int[] played = playedNights(n, z);
                check.due(n + " nights with " + z, x.nights(n, z, 0), played[0]);
                check.due(n + " nights with " + z + " of SIDE 1", x.nights(n, z, 1), played[1]);
            }
        }
    }

    /** "each from now", but a DRAW goes on from the one ahead of it. */
    private static void nightsGoOn() {
        SideBySide x = Check.of(NIGHT);
        int[] one = new int[2];
        int[] twenty = new int[2];
        for (int what = 0; what < 2; what++) {
            one[what] = x.nights(1, 7, what);
            twenty[what] = x.nights(20, 7, what);
            check.due("the same seed, the same night", x.nights(1, 7, what), one[what]);
        }
        check.dueTrue("not 20 times the first", twenty[0] != 20 * one[0] || twenty[1] != 20 * one[1]);
        check.dueTrue("POINTS of both", twenty[0] > 0 && twenty[1] > 0);
        check.due("HITS", x.count(1), 0);
    }
}
