/** Promises 20 to 22: the fewest strokes to a point, the better form, the better habit. */
public final class BestTest {
    private static final Check check = new Check();

    public static void main(String[] args) {
        fewest();
        fewestByTheThird();
        bestForm();
        bestHabit();
        refusals();
        check.end();
    }

    private static void fewest() {
        SideBySide x = Check.of("b00;b15;");
        check.due("at once", x.fewest(0), 1);
        check.due("the first hit at once", x.fewest(1), 13);

        // 2 and 3 are never alike far from a cell; after a hit into row 1 they stand beside, and are.
        SideBySide y = Check.of("b00;h10;p204;p374;");
        check.due("nothing at once", y.forced(), -4);
        check.due("by the third", y.fewest(0), 3);
        check.due("the first hit by the third", y.fewest(1), 3);
        // Alike for CELL 4 with habit 0, side 0 would lose the point to what is hit back.
        Check.told(y, "h00;");
        check.due("a point of the other side ends it", y.fewest(0), -4);
        check.due("no first hit", y.fewest(1), -4);

        // One behind the other they are alike far after a hit into column 1.
        Check.told(y, "h01;f11;");
        check.due("by the third, behind", y.fewest(0), 3);
        check.due("the first hit, behind", y.fewest(1), 1);

        SideBySide z = Check.of("b00;");
        check.due("none", z.fewest(0), -4);
        check.due("no first hit of none", z.fewest(1), -4);
        // The side that has it counts: here side 1, and side 0 has habit 0.
        Check.told(z, "p004;p174;h00;x04;");
        check.due("side 1 has it", z.count(2), 2);
        check.due("of side 1", z.fewest(0), 3);
        check.due("the first hit of side 1", z.fewest(1), 3);
    }

    /** The first HIT in their order, each tried from now: what those ahead of it did in mind must not matter. */
    private static void fewestByTheThird() {
        String[] courts = {"b43;", "b03;p281;f11;h13;", "b43;p381;h10;", "b43;p382;", "b40;p242;f11;",
            "b13;p052;p232;p301;h13;", "b40;b75;p002;p222;p381;", "b10;b43;p242;f01;", "b43;b05;p282;p301;",
            "b63;b03;b15;b73;p022;p242;p321;f11;h01;", "b65;b40;p212;f11;", "b65;b33;b43;b03;p041;p222;f11;",
            "b65;b40;p222;", "b63;b63;b43;p162;p222;p331;f11;", "b60;b60;b43;p141;p242;"};
        int[] firsts = {0, 1, 1, 2, 3, 4, 5, 6, 7, 10, 13, 15, 16, 25, 26};
        for (int i = 0; i < courts.length; i++) {
            SideBySide x = Check.of(courts[i]);
            check.due("nothing at once, " + courts[i], x.forced(), -4);
            check.due("by the third, " + courts[i], x.fewest(0), 3);
            check.due("the first HIT, " + courts[i], x.fewest(1), firsts[i]);
            check.due("asked again, " + courts[i], x.fewest(1), firsts[i]);
        }
    }

    private static void bestForm() {
        SideBySide x = Check.of("b19;p201;p381;");
        check.due("beside is better", x.bestForm(1, 0), 0);
        check.due("by 6", x.bestForm(1, 1), 6);
        x.forms(1, 0, 1);
        check.due("whatever it is now", x.bestForm(1, 0), 0);
        check.due("by 6 again", x.bestForm(1, 1), 6);
        // The same of side 0, though it has the shuttle: then 2 has it.
        SideBySide y = Check.of("b19;p001;p181;");
        check.due("of side 0", y.bestForm(0, 0), 0);
        check.due("of side 0, by 6", y.bestForm(0, 1), 6);
        // 2, not 3, is tired by the first hit, and so does not get what is hit back.
        SideBySide w = Check.of("b19;p002;p101;p202;p302;t228;");
        check.due("the lesser number has it", w.bestForm(0, 1), 6);
        SideBySide z = Check.of("b00;");
        check.due("alike", z.bestForm(1, 0), 0);
        check.due("all of them", z.bestForm(1, 1), 9);
        Check.told(z, "h10;");
        check.due("three are nobody's at once", z.bestForm(1, 1), 6);
        Check.told(z, "p211;p311;");
        check.due("none is held", z.bestForm(1, 1), 0);
        check.due("none, so the least", z.bestForm(1, 0), 0);
        // A point of one's own ends it, and it is none for the other one.
        Check.told(z, "h11;h00;p011;p111;");
        check.due("a point of one's own", z.bestForm(1, 1), 9);
    }

    private static void bestHabit() {
        SideBySide x = Check.of("b00;");
        check.due("habit 1", x.bestHabit(1, 0), 1);
        check.due("all of them", x.bestHabit(1, 1), 9);
        SideBySide y = Check.of("b19;p372;l3;");
        check.due("the left-handed one is faster", y.bestHabit(1, 0), 3);
        check.due("all of them are his", y.bestHabit(1, 1), 9);
        SideBySide z = Check.of("b19;p172;l1;");
        check.due("of side 0", z.bestHabit(0, 0), 3);
        check.due("of side 0, all", z.bestHabit(0, 1), 9);
        SideBySide w = Check.of("b00;p204;p374;");
        check.due("habit 0 loses the second hit to CELL 4", w.bestHabit(1, 0), 1);
        check.due("habit 1 loses none", w.bestHabit(1, 1), 9);
        check.due("habit stays", w.side(1, 1), 1);
    }

    private static void refusals() {
        SideBySide x = new SideBySide();
        check.due("fewest, no strokes", x.fewest(0), -3);
        check.due("fewest(2)", x.fewest(2), -1);
        check.due("fewest(-1)", x.fewest(-1), -1);
        check.due("bestForm, no strokes", x.bestForm(1, 1), -3);
        check.due("bestForm(2, 0)", x.bestForm(2, 0), -1);
        check.due("bestForm(-1, 0)", x.bestForm(-1, 0), -1);
        check.due("bestForm(0, 2)", x.bestForm(0, 2), -1);
        check.due("bestForm(0, -1)", x.bestForm(0, -1), -1);
        check.due("bestHabit, no strokes", x.bestHabit(0, 0), -3);
        check.due("bestHabit(2, 0)", x.bestHabit(2, 0), -1);
        check.due("bestHabit(-1, 0)", x.bestHabit(-1, 0), -1);
        check.due("bestHabit(0, 2)", x.bestHabit(0, 2), -1);
        check.due("bestHabit(0, -1)", x.bestHabit(0, -1), -1);
    }
}
