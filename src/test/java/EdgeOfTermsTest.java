/**
 * The bounds that "Terms" names: a test for each sentence, on both sides of it. What is refused at a bound, and that
 * nothing changes then, is in EdgeOfRefusalsTest too.
 */
public final class EdgeOfTermsTest {
    private static final Check check = new Check();

    public static void main(String[] args) {
        cells();
        rowsAndColumns();
        ways();
        fourAtFirst();
        paces();
        tired();
        leftHanded();
        sidesAtFirst();
        formsAndHabits();
        draught();
        eightStrokes();
        noRoomUntilRestored();
        kinds();
        figures();
        smashesByFigure();
        dropsByFigure();
        dropsByRow();
        pushesByRow();
        flicksAndLifts();
        betweens();
        wanders();
        stepsByTired();
        wayAndSteps();
        wayAndTiredSteps();
        lessWayOrAlike();
        habitsWhenAlike();
        check.end();
    }

    private static int wins(String court, int stroke, int cell) {
        return Check.of(court).wins(stroke, cell);
    }

    /** "CELLS 0 .. 8" */
    private static void cells() {
        SideBySide x = Check.of("b00;");
        check.due("stands in 0", x.stands(0, 0, 1), 1);
        check.due("stands in 8", x.stands(0, 8, 1), 0);
        check.due("stands in 9", x.stands(0, 9, 1), -1);
        check.due("stands in -1", x.stands(0, -1, 1), -1);
        check.due("AT 8 still", x.player(0, 0), 8);
        check.due("falls in 0", x.falls(0, 0), 0);
        check.due("falls in 8", x.falls(0, 8), 8);
        check.due("falls in 9", x.falls(0, 9), -1);
        check.due("falls in -1", x.falls(0, -1), -1);
        check.due("hit to 9", x.hit(0, 9), -1);
        check.due("hit to -1", x.hit(0, -1), -1);
        check.due("no HITS", x.count(1), 0);
        check.due("hit to 0", x.hit(0, 0), 2);
        check.due("AT 0", x.player(2, 0), 0);
        check.due("hit to 8", x.hit(0, 8), 0);
        check.due("AT 8", x.player(0, 0), 8);
        check.due("HITS", x.count(1), 2);
    }

    /** "ROW the CELL by 3, cut (0 at the net), COLUMN the CELL modulo 3" */
    private static void rowsAndColumns() {
        SideBySide x = Check.of("b60;b70;d2;");
        int[] between = {1, 1, 1, 4, 4, 4, 7, 7, 7};
        int[] wandered = {1, 2, 2, 4, 5, 5, 7, 8, 8};
        for (int cell = 0; cell < 9; cell++) {
            check.due("the ROW of " + cell, x.falls(0, cell), between[cell]);
            check.due("the COLUMN of " + cell, x.falls(1, cell), wandered[cell]);
        }
    }

    /** "WAY between two CELLS: ROWS and COLUMNS apart together": 0 to 4. */
    private static void ways() {
        int[][] ways = {{0, 1, 2, 1, 2, 3, 2, 3, 4}, {4, 3, 2, 3, 2, 1, 2, 1, 0}, {2, 1, 2, 1, 0, 1, 2, 1, 2}};
        String[] from = {"0", "8", "4"};
        for (int i = 0; i < 3; i++) {
            SideBySide x = Check.of("b30;p2" + from[i] + "1;p3" + from[i] + "1;");
            for (int cell = 0; cell < 9; cell++) {
                check.due("the WAY from " + from[i] + " to " + cell, x.change(0, cell, 2, 1), ways[i][cell]);
            }
        }
    }

    /** "FOUR play: 0 and 1 of SIDE 0, 2 and 3 of SIDE 1: AT a CELL of their half (0 and 2 AT 1, 1 and 3 AT 7 at first)" */
    private static void fourAtFirst() {
        SideBySide x = new SideBySide();
        for (int p = 0; p < 4; p++) {
            check.due("AT, of " + p, x.player(p, 0), p % 2 == 0 ? 1 : 7);
            check.due("PACE of " + p, x.player(p, 1), 1);
            check.due("TIRED of " + p, x.player(p, 2), 0);
            check.due("LEFT of " + p, x.player(p, 3), 0);
            check.due("STEPS of " + p, x.player(p, 4), 1);
        }
        check.due("4 is none of them", x.player(4, 0), -1);
        check.due("-1 is none of them", x.player(-1, 0), -1);
    }

    /** "PACE (1 .. 4; 1 at first)" */
    private static void paces() {
        SideBySide x = new SideBySide();
        for (int pace = 1; pace <= 4; pace++) {
            check.due("stands with " + pace, x.stands(3, 7, pace), 7);
            check.due("PACE", x.player(3, 1), pace);
            check.due("STEPS", x.player(3, 4), pace);
        }
        check.due("stands with 5", x.stands(3, 0, 5), -1);
        check.due("stands with 0", x.stands(3, 0, 0), -1);
        check.due("stands with -1", x.stands(3, 0, -1), -1);
        check.due("PACE still", x.player(3, 1), 4);
        check.due("AT still", x.player(3, 0), 7);
    }

    /** "TIRED (0 .. 99; 0 at first)" */
    private static void tired() {
        SideBySide x = new SideBySide();
        check.due("tires to 99", x.tires(2, 99), 0);
        check.due("tires to 100", x.tires(2, 100), -1);
        check.due("TIRED still", x.player(2, 2), 99);
        check.due("tires to 0", x.tires(2, 0), 99);
        check.due("tires to -1", x.tires(2, -1), -1);
        check.due("TIRED still", x.player(2, 2), 0);
    }

    /** "LEFT-handed or not (not at first)" */
    private static void leftHanded() {
        SideBySide x = new SideBySide();
        check.due("none at first", x.count(5), 0);
        for (int p = 0; p < 4; p++) {
            check.due("hands(" + p + ")", x.hands(p), 1);
            check.due("LEFT", x.player(p, 3), 1);
        }
        check.due("all of them", x.count(5), 15);
        for (int p = 0; p < 4; p++) {
            check.due("hands(" + p + ") again", x.hands(p), 0);
        }
        check.due("none of them", x.count(5), 0);
        check.due("hands(4)", x.hands(4), -1);
        check.due("hands(-1)", x.hands(-1), -1);
        check.due("none still", x.count(5), 0);
    }

    /** "Of each SIDE: FORM (0 at first), HABIT (1 at first), POINTS (0 at first). HAS (0 at first). HITS (0 at first)" */
    private static void sidesAtFirst() {
        SideBySide x = new SideBySide();
        for (int s = 0; s < 2; s++) {
            check.due("FORM", x.side(s, 0), 0);
            check.due("HABIT", x.side(s, 1), 1);
            check.due("POINTS", x.side(s, 2), 0);
        }
        check.due("side 2", x.side(2, 0), -1);
        check.due("side -1", x.side(-1, 0), -1);
        check.due("STROKES", x.count(0), 0);
        check.due("HITS", x.count(1), 0);
        check.due("HAS", x.count(2), 0);
        check.due("DRAUGHT and 1", x.count(3), 1);
        check.due("all TIRED", x.count(4), 0);
    }

    /** "FORM (0 beside, 1 behind), HABIT (0 .. 3)" */
    private static void formsAndHabits() {
        for (int s = 0; s < 2; s++) {
            SideBySide x = new SideBySide();
            check.due("FORM 1", x.forms(s, 0, 1), 0);
            check.due("FORM 2", x.forms(s, 0, 2), -1);
            check.due("FORM -1", x.forms(s, 0, -1), -1);
            check.due("FORM still", x.side(s, 0), 1);
            check.due("FORM 0", x.forms(s, 0, 0), 1);
            check.due("HABIT 3", x.forms(s, 1, 3), 1);
            check.due("HABIT 4", x.forms(s, 1, 4), -1);
            check.due("HABIT -1", x.forms(s, 1, -1), -1);
            check.due("HABIT still", x.side(s, 1), 3);
            check.due("HABIT 0", x.forms(s, 1, 0), 3);
            check.due("HABIT 2", x.forms(s, 1, 2), 0);
            check.due("neither", x.forms(s, 2, 0), -1);
            check.due("neither", x.forms(s, -1, 0), -1);
            check.due("of the other SIDE", x.side(1 - s, 0) + 10 * x.side(1 - s, 1), 10);
        }
    }

    /** "DRAUGHT (-1, 0, 1; 0 at first)" */
    private static void draught() {
        SideBySide x = Check.of("b70;");
        int[] fell = {0, 1, 2};
        for (int v = 0; v < 3; v++) {
            check.due("blows(" + v + ")", x.blows(v), v == 0 ? 1 : v - 1);
            check.due("DRAUGHT and 1", x.count(3), v);
            check.due("falls", x.falls(0, 1), fell[v]);
        }
        check.due("blows(3)", x.blows(3), -1);
        check.due("blows(-1)", x.blows(-1), -1);
        check.due("DRAUGHT still", x.count(3), 2);
    }

    /** "STROKES 0 .. as they come (8 at most)" */
    private static void eightStrokes() {
        SideBySide x = new SideBySide();
        x.keep(0, 1, 3, 1);
        for (int s = 0; s < 8; s++) {
            check.due("not yet", x.stroke(s, 0), -1);
            check.due("hit by one not there yet", x.hit(s, 0), -1);
            check.due("learns", x.learns(0), s);
            check.due("there", x.stroke(s, 0), 3);
            check.due("falls", x.falls(s, 8), 8);
        }
        check.due("a ninth", x.learns(0), -2);
        check.due("a ninth told", Check.told(x, "b00;"), -2000);
        check.due("STROKES", x.count(0), 8);
        check.due("no stroke 8", x.stroke(8, 0), -1);
        check.due("no hit by stroke 8", x.hit(8, 0), -1);
        check.due("a hit by stroke 7", x.hit(7, 0), 2);
    }

    /** There is room again when an image of fewer STROKES is restored. */
    private static void noRoomUntilRestored() {
        SideBySide x = Check.of("b00;b10;b20;b30;b40;b50;b60;");
        x.image();
        x.keep(0, 1, 7, 9);
        check.due("the eighth", x.learns(0), 7);
        check.due("no room", x.learns(0), -2);
        check.due("restore", x.restore(), 0);
        check.due("no stroke 7", x.stroke(7, 0), -1);
        check.due("room again", x.learns(0), 7);
        check.due("no room again", x.learns(0), -2);
        x.image();
        check.due("restored full", x.restore(), 0);
        check.due("no room then", x.learns(0), -2);
        check.due("STROKES", x.count(0), 8);
    }

    /** "KINDS: 0 STROKE .. 7 WANDER" */
    private static void kinds() {
        SideBySide x = new SideBySide();
        check.due("KIND 0", x.keep(0, 1, 0, 0), 0);
        check.due("learns", x.learns(0), 0);
        check.due("KIND 7", x.keep(0, 1, 7, 0), 0);
        check.due("learns", x.learns(0), 1);
        check.due("KIND 8", x.keep(0, 1, 8, 0), -1);
        check.due("KIND -1", x.keep(0, 1, -1, 0), -1);
        check.due("learns KIND 7 once more", x.learns(0), 2);
        for (int s = 0; s < 3; s++) {
            check.due("KIND of " + s, x.stroke(s, 0), s == 0 ? 0 : 7);
        }
    }

    /** "each with a FIGURE (0 .. 9)" */
    private static void figures() {
        SideBySide x = new SideBySide();
        check.due("FIGURE 0", x.keep(0, 1, 6, 0), 0);
        check.due("COST", x.cost(0), 0);
        check.due("FIGURE 9", x.keep(0, 1, 6, 9), 0);
        check.due("FIGURE 10", x.keep(0, 1, 6, 10), -1);
        check.due("FIGURE -1", x.keep(0, 1, 6, -1), -1);
        check.due("COST still", x.cost(0), 9);
        check.due("learns", x.learns(0), 0);
        check.due("FIGURE", x.stroke(0, 1), 9);
    }

    /** "TIME: SMASH 1, if FIGURE is 5 or more, else 2" */
    private static void smashesByFigure() {
        SideBySide x = Check.of("b10;b14;b15;b19;");
        int[] times = {2, 2, 1, 1};
        for (int s = 0; s < 4; s++) {
            check.due("TIME to 0", x.stroke(s, 3), times[s]);
            check.due("TIME to 8", x.stroke(s, 4), times[s]);
            check.due("two CELLS off", x.wins(s, 3), 2 - times[s]);
            check.due("TIRES", x.stroke(s, 2), 5);
        }
    }

    /** "TIRES: DROP FIGURE by 3, cut, more than a STROKE; others (PUSH) as what they are under" */
    private static void dropsByFigure() {
        int[] tires = {1, 1, 1, 2, 2, 2, 3, 3, 3, 4};
        for (int figure = 0; figure < 10; figure++) {
            SideBySide x = Check.of("b2" + figure + ";b4" + figure + ";");
            check.due("a DROP of " + figure, x.stroke(0, 2), tires[figure]);
            check.due("a PUSH of " + figure, x.stroke(1, 2), tires[figure]);
            check.due("who hits", x.change(1, 0, 0, 1), tires[figure]);
        }
    }

    /** "TIME (by the CELL where it FALLS): DROP 2 to ROW 0, else as a STROKE": to CELLS 2 and 3. */
    private static void dropsByRow() {
        check.due("to 2, two CELLS off", wins("b20;p281;p381;", 0, 2), 0);
        check.due("to 1, three CELLS off", wins("b20;p281;p381;", 0, 1), 1);
        check.due("to 2, three CELLS off", wins("b20;p271;p371;", 0, 2), 1);
        check.due("to 3, three CELLS off", wins("b20;p281;p381;", 0, 3), 0);
        check.due("to 5, three CELLS off", wins("b20;p201;p301;", 0, 5), 0);
        check.due("to 8, four CELLS off", wins("b20;p201;p301;", 0, 8), 1);
        SideBySide x = Check.of("b20;");
        check.due("TIME to 0", x.stroke(0, 3), 2);
        check.due("TIME to 8", x.stroke(0, 4), 3);
    }

    /** "PUSH 1 less than a DROP" */
    private static void pushesByRow() {
        check.due("to 1, one CELL off", wins("b40;p221;p321;", 0, 1), 0);
        check.due("to 0, two CELLS off", wins("b40;p221;p321;", 0, 0), 1);
        check.due("to 2, two CELLS off", wins("b40;p281;p381;", 0, 2), 1);
        check.due("to 3, two CELLS off", wins("b40;p271;p371;", 0, 3), 0);
        check.due("to 3, three CELLS off", wins("b40;p281;p381;", 0, 3), 1);
        check.due("to 8, two CELLS off", wins("b40;p221;p321;", 0, 8), 0);
        check.due("to 7, three CELLS off", wins("b40;p221;p321;", 0, 7), 1);
    }

    /** "STROKE 3; LIFT 3 more; FLICK half of a LIFT's, cut; TIRES: STROKE 1; LIFT 1 more; FLICK 1 less than a LIFT" */
    private static void flicksAndLifts() {
        String[] kinds = {"b00;", "b30;", "b50;"};
        int[] times = {3, 6, 3};
        int[] tires = {1, 2, 1};
        for (int i = 0; i < 3; i++) {
            check.due("three CELLS off", wins(kinds[i] + "p201;p301;", 0, 5), 0);
            check.due("four CELLS off", wins(kinds[i] + "p201;p301;", 0, 8), times[i] == 3 ? 1 : 0);
            SideBySide x = Check.of(kinds[i]);
            check.due("TIME to 0", x.stroke(0, 3), times[i]);
            check.due("TIME to 8", x.stroke(0, 4), times[i]);
            check.due("TIRES", x.stroke(0, 2), tires[i]);
        }
    }

    /** "FALLS: BETWEEN COLUMN 1 of its ROW" */
    private static void betweens() {
        for (int v = 0; v < 3; v++) {
            SideBySide x = Check.of("b69;d" + v + ";p201;p301;");
            for (int cell = 0; cell < 9; cell++) {
                check.due("from " + cell, x.falls(0, cell), cell / 3 * 3 + 1);
            }
            check.due("three CELLS off where it FALLS", x.wins(0, 8), 0);
            check.due("who gets it goes there", x.change(0, 8, 2, 0), 7);
        }
    }

    /** "WANDER COLUMN and DRAUGHT (0 .. 2) of its ROW; TIME 1 more than a LIFT; TIRES as a LIFT" */
    private static void wanders() {
        int[][] fell = {{0, 0, 1, 3, 3, 4, 6, 6, 7}, {0, 1, 2, 3, 4, 5, 6, 7, 8}, {1, 2, 2, 4, 5, 5, 7, 8, 8}};
        for (int v = 0; v < 3; v++) {
            SideBySide x = Check.of("b70;d" + v + ";");
            for (int cell = 0; cell < 9; cell++) {
                check.due("from " + cell + " by " + (v - 1), x.falls(0, cell), fell[v][cell]);
            }
            check.due("TIME to 0", x.stroke(0, 3), 7);
            check.due("TIME to 8", x.stroke(0, 4), 7);
            check.due("TIRES", x.stroke(0, 2), 2);
        }
    }

    /** "STEPS: TIME times (PACE less TIRED by 30, cut; 1 at least)" */
    private static void stepsByTired() {
        int[] bounds = {0, 29, 30, 59, 60, 89, 90, 99};
        int[] less = {0, 0, 1, 1, 2, 2, 3, 3};
        for (int pace = 1; pace <= 4; pace++) {
            for (int i = 0; i < bounds.length; i++) {
                SideBySide x = new SideBySide();
                x.stands(1, 7, pace);
                x.tires(1, bounds[i]);
                int due = pace - less[i] < 1 ? 1 : pace - less[i];
                check.due("STEPS with PACE " + pace + ", TIRED " + bounds[i], x.player(1, 4), due);
            }
        }
    }

    /** "or the WAY of him whose it is is more than his STEPS in its TIME": just as much is no POINT. */
    private static void wayAndSteps() {
        check.due("1 of 1", wins("b19;p241;p341;", 0, 1), 0);
        check.due("2 of 1", wins("b19;p241;p341;", 0, 0), 1);
        check.due("0 of 1", wins("b19;p241;p341;", 0, 4), 0);
        check.due("2 of 2", wins("b19;p212;p312;", 0, 3), 0);
        check.due("3 of 2", wins("b19;p212;p312;", 0, 6), 1);
        check.due("3 of 3", wins("b19;p203;p303;", 0, 5), 0);
        check.due("4 of 3", wins("b19;p203;p303;", 0, 8), 1);
        check.due("4 of 4", wins("b19;p204;p304;", 0, 8), 0);
        check.due("3 of 2, TIME 2", wins("b14;p211;p311;", 0, 6), 1);
        check.due("3 of 4, TIME 2", wins("b14;p212;p312;", 0, 6), 0);
        check.due("4 of 4, TIME 2", wins("b14;p202;p302;", 0, 8), 0);
    }

    private static void wayAndTiredSteps() {
        check.due("TIRED 29", wins("b19;p212;p312;t229;t329;", 0, 3), 0);
        check.due("TIRED 30", wins("b19;p212;p312;t230;t330;", 0, 3), 1);
        check.due("TIRED 30, one CELL off", wins("b19;p212;p312;t230;t330;", 0, 0), 0);
        check.due("PACE 3, TIRED 59", wins("b19;p213;p313;t259;t359;", 0, 3), 0);
        check.due("PACE 3, TIRED 60", wins("b19;p213;p313;t260;t360;", 0, 3), 1);
        check.due("PACE 4, TIRED 89", wins("b19;p214;p314;t289;t389;", 0, 3), 0);
        check.due("PACE 4, TIRED 90", wins("b19;p214;p314;t290;t390;", 0, 3), 1);
        check.due("PACE 1, TIRED 99, one CELL off", wins("b19;p211;p311;t299;t399;", 0, 0), 0);
    }

    /** "WHOSE: the one with less WAY from where he is to where it FALLS" */
    private static void lessWayOrAlike() {
        String[] courts = {"p221;p371;", "p211;p371;", "p211;p361;", "p241;p371;", "p211;p341;", "p201;p381;"};
        int[] due = {3, 9, 2, 2, 3, 9};
        for (int i = 0; i < courts.length; i++) {
            SideBySide x = Check.of("b00;h10;" + courts[i]);
            check.due("to CELL 4 by " + courts[i], x.whose(0, 4), due[i]);
            x.forms(1, 1, 3);
            check.due("to CELL 4 by HABIT 3, " + courts[i], x.whose(0, 4), due[i]);
        }
    }

    /** "both alike: by HABIT: 0 nobody's, 1 the lesser number's, 2 both's, 3 the LEFT-handed one's, if just one is" */
    private static void habitsWhenAlike() {
        int[][] due = {{9, 9, 9, 9}, {2, 2, 2, 2}, {2, 2, 2, 2}, {9, 2, 3, 9}};
        for (int habit = 0; habit < 4; habit++) {
            for (int left = 0; left < 4; left++) {
                SideBySide x = Check.of("b00;l0;h00;h1" + habit + ";");
                if ((left & 1) == 1) {
                    x.hands(2);
                }
                if (left > 1) {
                    x.hands(3);
                }
                check.due("HABIT " + habit + ", LEFT " + left, x.whose(0, 4), due[habit][left]);
                check.due("not alike, HABIT " + habit + ", LEFT " + left, x.whose(0, 1), 2);
                check.due("wins, HABIT " + habit + ", LEFT " + left, x.wins(0, 4), due[habit][left] == 9 ? 1 : 0);
            }
        }
    }
}
