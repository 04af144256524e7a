/**
 * Promises 2 to 37: the same court told by a text, by calls alone, and by calls behind THE IMAGE of an empty court when
 * another one stood there. Each call is asked of an object of its own, as the first one behind that: what was tried out
 * in mind before must not matter.
 */
public final class ByCallsTest {
    private static final String COURT =
        "b26;b74;b19;b00;b65;p072;p182;p211;p372;t031;t160;t231;t300;l2;h00;h10;f01;d0;x28;";
    private static final String ANOTHER =
        "b30;b30;b77;b00;b19;b65;b43;b50;p001;p141;p281;p301;t099;t399;l0;l3;f11;h02;h13;d2;x05;";

    // 3 has it; side 0, whose 0 is AT 7 and 1 AT 8, does not.
    private static final String[] DUE = {
        "count(0) 5; count(1) 1; count(2) 3; count(3) 0; count(4) 128; count(5) 4; count(6) -1",
        "player(0, 0) 7; player(0, 1) 2; player(0, 2) 36; player(0, 3) 0; player(0, 4) 1; player(1, 0) 8",
        "player(1, 1) 2; player(1, 2) 60; player(1, 3) 0; player(1, 4) 1; player(2, 0) 0; player(2, 1) 1",
        "player(2, 2) 31; player(2, 3) 1; player(2, 4) 1; player(3, 0) 8; player(3, 1) 2; player(3, 2) 1",
        "player(3, 3) 0; player(3, 4) 2; side(0, 0) 1; side(0, 1) 0; side(0, 2) 0; side(0, 3) 3",
        "side(1, 0) 0; side(1, 1) 0; side(1, 2) 0; side(1, 3) 1; stroke(0, 0) 2; stroke(0, 1) 6",
        "stroke(0, 2) 3; stroke(0, 3) 2; stroke(0, 4) 3; stroke(4, 0) 6; stroke(4, 1) 5; stroke(4, 2) 1",
        "stroke(4, 3) 3; stroke(4, 4) 3; stroke(5, 0) -1",
        "whose(0, 0) 0; wins(0, 0) 1; falls(0, 0) 0; whose(0, 2) 1; wins(0, 2) 0; falls(0, 2) 2",
        "whose(0, 4) 0; wins(0, 4) 0; falls(0, 4) 4; whose(0, 8) 1; wins(0, 8) 0; falls(0, 8) 8",
        "whose(1, 0) 0; wins(1, 0) 0; falls(1, 0) 0; whose(1, 2) 0; wins(1, 2) 0; falls(1, 2) 1",
        "whose(1, 7) 0; wins(1, 7) 0; falls(1, 7) 6; whose(1, 8) 0; wins(1, 8) 0; falls(1, 8) 7",
        "whose(2, 0) 0; wins(2, 0) 1; falls(2, 0) 0; whose(2, 2) 1; wins(2, 2) 1; falls(2, 2) 2",
        "whose(4, 0) 0; wins(4, 0) 0; falls(4, 0) 1; whose(4, 8) 0; wins(4, 8) 0; falls(4, 8) 7",
        "whose(5, 0) -1; wins(5, 0) -1; falls(5, 0) -1; open(5) -1; farthest(5, 0) -1; atWhom(5) -1",
        "open(0) 1; open(1) 0; open(2) 15; open(3) 0; open(4) 0; forced() 0; fewest(0) 1; fewest(1) 0",
        "farthest(0, 0) 0; farthest(0, 1) 3; farthest(1, 0) 0; farthest(1, 1) 3; farthest(4, 1) 2",
        "atWhom(0) 2; atWhom(1) 0; atWhom(2) 5; atWhom(3) 2; atWhom(4) 0",
        "bestForm(0, 0) 0; bestForm(0, 1) 8; bestForm(1, 0) 0; bestForm(1, 1) 6",
        "bestHabit(0, 0) 0; bestHabit(0, 1) 8; bestHabit(1, 0) 1; bestHabit(1, 1) 9",
        "change(1, 6, 0, 0) 6; change(1, 6, 0, 1) 37; change(1, 6, 1, 0) 1; change(1, 6, 1, 1) 60",
        "change(1, 6, 2, 0) 0; change(1, 6, 2, 1) 31; change(1, 6, 3, 0) 8; change(1, 6, 3, 1) 3",
        "change(0, 3, 0, 0) 3; change(0, 3, 0, 1) 38; change(0, 3, 1, 0) 4; change(0, 3, 3, 1) 4",
        "change(5, 0, 0, 0) -1; rally(5, 0) 4; rally(5, 1) 2; spent(5) 1; forged(5) -4; forged(3) 2; rally(3, 0) -13",
        "ways(5, 0) 3; ways(5, 1) 2; ways(5, 2) 2; ways(5, 3) 3; ways(3, 0) -13; spent(3) -13",
        "whatIs(6, 0, 0) 128; whatIs(6, 1, 1) 1; whatIs(6, 0, 1) 0; whatIs(6, 5, 0) -1; habits(4) 15; two() 0",
        "draughts(2, 3, 0) 2; draughts(2, 3, 1) 3; draughts(5, 7, 0) 6; draughts(5, 7, 1) 7; mean(0) 32; mean(1) 1",
        "judge(7) 2; nights(3, 42, 0) 7; nights(3, 42, 1) 14; image() 1; learns(2) 5; hit(0, 0) 2; hit(0, 2) 1",
        "cost(2) 5; toss(2) 205; hands(2) 0; blows(1) 0; tires(1, 0) 60; stands(2, 4, 4) 0; forms(0, 0, 0) 1",
    };
    private static final Check check = new Check();

    public static void main(String[] args) {
        for (String line : DUE) {
            for (String one : line.split("; ")) {
                String call = one.substring(0, one.indexOf(')') + 1);
                String due = one.substring(one.indexOf(')') + 2);
                check.dueText(call + ", told by a text", Check.ask(byText(), call), due);
                check.dueText(call + ", told by calls", Check.ask(byCalls(new SideBySide()), call), due);
                check.dueText(call + ", where another court stood", Check.ask(whereAnotherStood(), call), due);
            }
        }
        check.dueText("questions ahead of it", Check.whole(byCalls(new SideBySide())), Check.whole(byCalls(onlyAsked())));
        theTextLeavesShelves();
        check.end();
    }

    private static SideBySide byText() {
        SideBySide x = Check.of(COURT);
        shelves(x);
        return x;
    }

    /** Questions alone, on a court of which nothing was told, leave it as it is. */
    private static SideBySide onlyAsked() {
        SideBySide x = new SideBySide();
        check.dueText("forced()", Check.ask(x, "forced()"), "-4");
        check.dueText("fewest(0)", Check.ask(x, "fewest(0)"), "-3");
        check.dueText("draughts(0, 2, 1)", Check.ask(x, "draughts(0, 2, 1)"), "1");
        return x;
    }

    private static SideBySide whereAnotherStood() {
        SideBySide x = new SideBySide();
        check.due("image of an empty court", x.image(), 0);
        check.due("another court", Check.told(x, ANOTHER), 21);
        check.dueTrue("hits in mind on it", x.nights(1, 7, 0) >= 0);
        check.due("restore", x.restore(), 0);
        return byCalls(x);
    }

    private static SideBySide byCalls(SideBySide x) {
        int[] kinds = {2, 7, 1, 0, 6};
        int[] figures = {6, 4, 9, 0, 5};
        for (int i = 0; i < kinds.length; i++) {
            check.due("keep", x.keep(1, 1, kinds[i], figures[i]), 0);
            check.due("learns", x.learns(1), i);
        }
        check.due("keep nothing", x.keep(1, 0, 0, 0), 0);
        int[] cells = {7, 8, 1, 7};
        int[] were = {1, 7, 1, 7};
        int[] paces = {2, 2, 1, 2};
        int[] tired = {31, 60, 31, 0};
        for (int p = 0; p < 4; p++) {
            check.due("stands", x.stands(p, cells[p], paces[p]), were[p]);
            check.due("tires", x.tires(p, tired[p]), 0);
        }
        check.due("hands", x.hands(2), 1);
        check.due("forms, HABIT of 0", x.forms(0, 1, 0), 1);
        check.due("forms, HABIT of 1", x.forms(1, 1, 0), 1);
        check.due("forms, FORM of 0", x.forms(0, 0, 1), 0);
        check.due("blows", x.blows(0), 1);
        check.due("hit", x.hit(2, 8), 3);
        shelves(x);
        return x;
    }

    private static void shelves(SideBySide x) {
        Check.row(x, 5, Check.INTS, 1, 3, 0, 1, 1, 5, 3, 2);
        Check.row(x, 6, Check.BYTES, 0, -128, 1, 3);
        Check.row(x, 7, Check.SHORTS, 0, -32768, 0);
        Check.row(x, 4, Check.BYTES, 0, -128, 1);
        Check.row(x, 3, Check.INTS, 1, 3, 0, 8, 5, 5);
        x.keep(2, 1, 4, 9);
    }

    /** "The ROW of a text, and what is taken from a SHELF, stay there" */
    private static void theTextLeavesShelves() {
        SideBySide x = new SideBySide();
        check.due("court", Check.told(x, COURT), 19);
        for (int i = 0; i < COURT.length(); i++) {
            check.due("element(7, " + i + ")", x.element(7, i), COURT.charAt(i));
        }
        x.keep(2, 1, 4, 9);
        check.due("learns", x.learns(2), 5);
        check.due("cost", x.cost(2), 5);
        check.due("learns once more", x.learns(2), 6);
    }
}
