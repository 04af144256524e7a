/** Promises 3 to 12: what is told of strokes, players and sides, what changes them, and a hit. */
public final class ToldTest {
    private static final Check check = new Check();

    public static void main(String[] args) {
        strokes();
        players();
        sides();
        outOfPlace();
        learns();
        stands();
        tires();
        hands();
        forms();
        blows();
        hitThatIsGot();
        hitByForms();
        hitThatMakesAPoint();
        hitByHabits();
        hitThatTires();
        refusedHits();
        check.end();
    }

    private static void strokes() {
        int[] tires = {1, 5, 1, 2, 1, 1, 1, 2};
        int[] near = {3, 2, 2, 6, 1, 3, 3, 7};
        int[] far = {3, 2, 3, 6, 2, 3, 3, 7};
        for (int k = 0; k < 8; k++) {
            for (int figure = 0; figure < 10; figure++) {
                SideBySide x = new SideBySide();
                x.keep(0, 1, k, figure);
                x.learns(0);
                String of = "of kind " + k + ", " + figure;
                boolean fast = k == 1 && figure >= 5;
                check.due("KIND " + of, x.stroke(0, 0), k);
                check.due("FIGURE " + of, x.stroke(0, 1), figure);
                check.due("TIRES " + of, x.stroke(0, 2), tires[k] + (k == 2 || k == 4 ? figure / 3 : 0));
                check.due("TIME to 0 " + of, x.stroke(0, 3), fast ? 1 : near[k]);
                check.due("TIME to 8 " + of, x.stroke(0, 4), fast ? 1 : far[k]);
            }
        }
        SideBySide x = Check.of("b00;b11;");
        check.due("stroke(1, 0)", x.stroke(1, 0), 1);
        check.due("stroke(2, 0)", x.stroke(2, 0), -1);
        check.due("stroke(-1, 0)", x.stroke(-1, 0), -1);
        check.due("stroke(0, 5)", x.stroke(0, 5), -1);
        check.due("stroke(0, -1)", x.stroke(0, -1), -1);
        for (int far1 : Check.NEITHER_NOR) {
            check.due("stroke far", x.stroke(far1, 0), -1);
            check.due("stroke far", x.stroke(0, far1), -1);
        }
        check.due("no strokes", new SideBySide().stroke(0, 0), -1);
    }

    private static void players() {
        SideBySide x = Check.of("p184;t110;l1;");
        check.due("AT", x.player(1, 0), 8);
        check.due("PACE", x.player(1, 1), 4);
        check.due("TIRED", x.player(1, 2), 10);
        check.due("LEFT", x.player(1, 3), 1);
        check.due("LEFT of another", x.player(0, 3), 0);
        int[][] steps = {{4, 0, 4}, {4, 29, 4}, {4, 30, 3}, {4, 59, 3}, {4, 60, 2}, {4, 89, 2}, {4, 90, 1},
            {4, 99, 1}, {3, 30, 2}, {3, 90, 1}, {2, 29, 2}, {2, 30, 1}, {2, 60, 1}, {1, 0, 1}, {1, 99, 1}};
        for (int[] one : steps) {
            x.stands(2, 0, one[0]);
            x.tires(2, one[1]);
            check.due("STEPS with " + one[0] + ", " + one[1], x.player(2, 4), one[2]);
        }
        check.due("player(4, 0)", x.player(4, 0), -1);
        check.due("player(-1, 0)", x.player(-1, 0), -1);
        check.due("player(0, 5)", x.player(0, 5), -1);
        check.due("player(0, -1)", x.player(0, -1), -1);
    }

    private static void sides() {
        SideBySide x = Check.of("b00;f01;h13;p211;p311;h10;x00;x00;");
        check.due("FORM", x.side(0, 0), 1);
        check.due("FORM of 1", x.side(1, 0), 0);
        check.due("HABIT", x.side(0, 1), 1);
        check.due("HABIT of 1", x.side(1, 1), 0);
        check.due("POINTS", x.side(0, 2), 2);
        check.due("POINTS of 1", x.side(1, 2), 0);
        check.due("side(2, 0)", x.side(2, 0), -1);
        check.due("side(-1, 0)", x.side(-1, 0), -1);
        check.due("side(0, 4)", x.side(0, 4), -1);
        check.due("side(0, -1)", x.side(0, -1), -1);
    }

    private static void outOfPlace() {
        SideBySide x = Check.of("b00;p051;p101;p251;p301;");
        check.due("beside 0, who has it", x.side(0, 3), 1);
        check.due("beside 2, who has it not", x.side(1, 3), 1);
        x.forms(0, 0, 1);
        x.forms(1, 0, 1);
        check.due("behind 0", x.side(0, 3), 2);
        check.due("behind 2", x.side(1, 3), 2);
        // 3 gets it, then 1: they lead their sides then.
        Check.told(x, "p181;p381;x08;");
        Check.told(x, "p251;p301;");
        check.due("3 has it", x.count(2), 3);
        check.due("before 3", x.side(1, 3), 2);
        x.forms(1, 0, 0);
        check.due("beside 3", x.side(1, 3), 0);
        Check.told(x, "x08;p051;p101;");
        check.due("1 has it", x.count(2), 1);
        check.due("before 1", x.side(0, 3), 2);
        x.forms(0, 0, 0);
        check.due("beside 1", x.side(0, 3), 0);
        check.due("of the other side the lesser number leads", x.side(1, 3), 1);
    }

    private static void learns() {
        SideBySide x = new SideBySide();
        check.due("learns(-1)", x.learns(-1), -1);
        check.due("learns(8)", x.learns(8), -1);
        check.due("learns of nothing", x.learns(0), -11);
        x.row(0, 0, 1);
        check.due("learns of a row", x.learns(0), -12);
        x.keep(0, 1, 6, 9);
        for (int s = 0; s < 8; s++) {
            check.due("learns", x.learns(0), s);
        }
        check.due("KIND", x.stroke(7, 0), 6);
        check.due("FIGURE", x.stroke(7, 1), 9);
        check.due("no room", x.learns(0), -2);
        check.due("no room, but nothing held goes ahead", x.learns(1), -11);
        x.row(1, 0, 1);
        check.due("no room, but a row goes ahead", x.learns(1), -12);
        check.due("STROKES", x.count(0), 8);
        check.due("what is taken stays", x.cost(0), 9);
    }

    private static void stands() {
        SideBySide x = new SideBySide();
        check.due("stands", x.stands(3, 0, 4), 7);
        check.due("stands again", x.stands(3, 8, 1), 0);
        check.due("AT", x.player(3, 0), 8);
        check.due("PACE", x.player(3, 1), 1);
        String ahead = Check.state(x);
        int[][] refused = {{-1, 0, 1}, {4, 0, 1}, {0, -1, 1}, {0, 9, 1}, {0, 0, 0}, {0, 0, 5}, {0, 0, -1},
            {Integer.MAX_VALUE, 0, 1}, {0, Integer.MIN_VALUE, 1}, {0, 0, Integer.MAX_VALUE}};
        for (int[] one : refused) {
            check.due("stands refused", x.stands(one[0], one[1], one[2]), -1);
        }
        check.dueTrue("nothing changed", ahead.equals(Check.state(x)));
    }

    private static void tires() {
        SideBySide x = new SideBySide();
        check.due("tires", x.tires(1, 99), 0);
        check.due("tires again", x.tires(1, 0), 99);
        check.due("tires once more", x.tires(1, 7), 0);
        check.due("TIRED", x.player(1, 2), 7);
        check.due("tires(1, 100)", x.tires(1, 100), -1);
        check.due("tires(1, -1)", x.tires(1, -1), -1);
        check.due("tires(4, 0)", x.tires(4, 0), -1);
        check.due("tires(-1, 0)", x.tires(-1, 0), -1);
        check.due("TIRED stays", x.player(1, 2), 7);
    }

    private static void hands() {
        SideBySide x = new SideBySide();
        check.due("hands", x.hands(2), 1);
        check.due("LEFT", x.player(2, 3), 1);
        check.due("hands again", x.hands(2), 0);
        check.due("LEFT no more", x.player(2, 3), 0);
        check.due("hands(4)", x.hands(4), -1);
        check.due("hands(-1)", x.hands(-1), -1);
    }

    private static void forms() {
        SideBySide x = new SideBySide();
        check.due("FORM was", x.forms(1, 0, 1), 0);
        check.due("FORM was then", x.forms(1, 0, 1), 1);
        check.due("HABIT was", x.forms(1, 1, 3), 1);
        check.due("HABIT was then", x.forms(1, 1, 0), 3);
        check.due("FORM", x.side(1, 0), 1);
        check.due("HABIT", x.side(1, 1), 0);
        check.due("of the other side", x.side(0, 0) + 10 * x.side(0, 1), 10);
        int[][] refused = {{2, 0, 0}, {-1, 0, 0}, {0, 2, 0}, {0, -1, 0}, {0, 0, 2}, {0, 0, -1}, {0, 1, 4}, {0, 1, -1}};
        for (int[] one : refused) {
            check.due("forms refused", x.forms(one[0], one[1], one[2]), -1);
        }
    }

    private static void blows() {
        SideBySide x = new SideBySide();
        check.due("blows(0)", x.blows(0), 1);
        check.due("blows(2)", x.blows(2), 0);
        check.due("blows(1)", x.blows(1), 2);
        check.due("blows(3)", x.blows(3), -1);
        check.due("blows(-1)", x.blows(-1), -1);
        check.due("DRAUGHT and 1", x.count(3), 1);
    }

    private static void four(String when, SideBySide x, int what, int... due) {
        for (int p = 0; p < 4; p++) {
            check.due((what == 0 ? "AT " : "TIRED ") + when + ", of " + p, x.player(p, what), due[p]);
        }
    }

    private static void hitThatIsGot() {
        SideBySide x = Check.of("b00;b37;");
        check.due("hit(0, 8)", x.hit(0, 8), 3);
        four("behind 8", x, 0, 1, 7, 3, 8);
        four("behind 8", x, 2, 1, 0, 0, 1);
        check.due("hit(0, 0)", x.hit(0, 0), 0);
        four("behind 0", x, 0, 0, 5, 3, 8);
        four("behind 0", x, 2, 2, 0, 0, 2);
        check.due("hit(1, 2)", x.hit(1, 2), 3);
        four("behind a lift", x, 0, 0, 5, 3, 2);
        four("behind a lift", x, 2, 4, 0, 0, 4);
        check.due("HITS", x.count(1), 3);
        check.due("no points", x.side(0, 2) + x.side(1, 2), 0);
    }

    private static void hitByForms() {
        SideBySide x = Check.of("b19;");
        check.due("one step: columns first", x.hit(0, 8), 3);
        four("beside", x, 0, 1, 7, 0, 8);
        SideBySide y = Check.of("b19;f11;p251;");
        check.due("behind", y.hit(0, 6), 3);
        four("behind", y, 0, 1, 7, 4, 6);
        SideBySide z = Check.of("b00;f11;p281;p371;");
        check.due("more steps than needed", z.hit(0, 3), 3);
        four("stays in the middle row", z, 0, 1, 7, 4, 3);
        // 2 steps but for being tired: then a column and no row.
        SideBySide v = Check.of("b19;p204;p382;t230;t330;");
        check.due("a tired partner", v.hit(0, 1), 2);
        four("a tired partner", v, 0, 1, 7, 1, 7);
    }

    private static void hitThatMakesAPoint() {
        SideBySide x = Check.of("b15;b00;");
        check.due("too far for the one whose it is", x.hit(0, 3), 0);
        four("for a point nobody goes", x, 0, 1, 7, 1, 7);
        four("who hit is tired", x, 2, 5, 0, 0, 0);
        check.due("POINTS", x.side(0, 2), 1);
        check.due("POINTS of 1", x.side(1, 2), 0);
        check.due("HITS", x.count(1), 1);
        // By the greater number of a side: then the lesser one has it.
        check.due("3 gets it", x.hit(1, 8), 3);
        check.due("3 makes a point", x.hit(0, 3), 2);
        check.due("2 has it", x.count(2), 2);
        check.due("POINTS of 1 then", x.side(1, 2), 1);
        check.due("TIRED of 3", x.player(3, 2), 6);
        check.due("TIRED of 2", x.player(2, 2), 0);
    }

    private static void hitByHabits() {
        SideBySide x = Check.of("b00;h10;");
        check.due("nobody's", x.hit(0, 4), 0);
        check.due("a point", x.side(0, 2), 1);
        x.forms(1, 1, 1);
        x.image();
        check.due("the lesser number's", x.hit(0, 4), 2);
        x.restore();
        x.forms(1, 1, 2);
        check.due("both's", x.hit(0, 3), 2);
        four("both's", x, 2, 2, 0, 5, 3);
        x.restore();
        x.forms(1, 1, 3);
        check.due("none is left-handed", x.hit(0, 4), 0);
        x.restore();
        x.forms(1, 1, 3);
        x.hands(3);
        check.due("the left-handed one's", x.hit(0, 4), 3);
        x.restore();
        x.forms(1, 1, 3);
        x.hands(2);
        check.due("the other left-handed one's", x.hit(0, 4), 2);
        x.restore();
        x.forms(1, 1, 3);
        x.hands(2);
        x.hands(3);
        check.due("both are left-handed", x.hit(0, 4), 0);
    }

    private static void hitThatTires() {
        // Both's tires them ahead of their steps: 27 and 3 leave 2 less one of a pace.
        SideBySide x = Check.of("b19;h12;p212;p372;t227;t327;");
        check.due("wins", x.wins(0, 3), 1);
        check.due("a point by it", x.hit(0, 3), 0);
        four("tired for a point too", x, 2, 5, 0, 30, 30);
        SideBySide y = Check.of("b19;h11;p212;p372;t227;t327;");
        check.due("got with habit 1", y.hit(0, 3), 2);
        SideBySide z = Check.of("b00;h12;t097;t298;t397;");
        check.due("no more than 99", z.hit(0, 3), 2);
        four("no more than 99", z, 2, 98, 0, 99, 99);
        SideBySide w = Check.of("b10;t097;t398;");
        w.hit(0, 8);
        four("99 at most", w, 2, 99, 0, 0, 99);
        // Of the partner too: 28 and 3 leave him one step.
        SideBySide v = Check.of("b19;h12;p213;p352;t328;");
        check.due("alike from 1 and 5", v.hit(0, 2), 2);
        four("a partner tired by both's", v, 0, 1, 7, 2, 4);
    }

    private static void refusedHits() {
        SideBySide x = Check.of("b00;");
        String ahead = Check.state(x);
        check.due("hit(1, 0)", x.hit(1, 0), -1);
        check.due("hit(-1, 0)", x.hit(-1, 0), -1);
        check.due("hit(0, 9)", x.hit(0, 9), -1);
        check.due("hit(0, -1)", x.hit(0, -1), -1);
        check.dueTrue("nothing changed", ahead.equals(Check.state(x)));
    }
}
