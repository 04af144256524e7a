/** Promises 35 to 37: the image, what is told of all. */
public final class ImageTest {
    private static final Check check = new Check();

    public static void main(String[] args) {
        image();
        imageOfStrokes();
        shelvesStay();
        count();
        check.end();
    }

    private static void image() {
        SideBySide x = new SideBySide();
        check.due("restore without one", x.restore(), -3);
        Check.told(x, "b00;b19;p054;t012;l1;f01;h12;d2;x04;x13;");
        String then = Check.state(x);
        check.due("image", x.image(), 2);
        check.dueTrue("nothing changed", then.equals(Check.state(x)));
        Check.told(x, "b77;p101;p281;t399;l0;l1;f00;f11;h03;h11;d0;x00;x01;x13;");
        check.dueTrue("much changed", !then.equals(Check.state(x)));
        check.due("restore", x.restore(), 2);
        check.dueTrue("all is as it was", then.equals(Check.state(x)));
        check.due("a hit", x.hit(0, 0) >= 0 ? 1 : 0, 1);
        check.due("restore again", x.restore(), 2);
        check.dueTrue("all is as it was, again", then.equals(Check.state(x)));
        x.hit(0, 8);
        check.due("another image", x.image(), 3);
        x.hit(0, 0);
        check.due("restored to it", x.restore(), 3);
    }

    private static void imageOfStrokes() {
        SideBySide x = Check.of("b19;");
        x.image();
        Check.told(x, "b25;b37;");
        check.due("KIND", x.stroke(2, 0), 3);
        x.restore();
        check.due("STROKES", x.count(0), 1);
        check.due("no such stroke", x.stroke(1, 0), -1);
        check.due("no such stroke to hit", x.hit(1, 0), -1);
        Check.told(x, "b60;");
        check.due("KIND then", x.stroke(1, 0), 6);
        SideBySide y = new SideBySide();
        check.due("an image of nothing", y.image(), 0);
        Check.told(y, "b00;x00;");
        check.due("restored to nothing", y.restore(), 0);
        check.due("no strokes", y.count(0), 0);
        check.due("no strokes", y.fewest(0), -3);
    }

    private static void shelvesStay() {
        SideBySide x = new SideBySide();
        x.keep(0, 1, 1, 1);
        x.row(1, 0, 3);
        x.image();
        x.keep(0, 1, 2, 2);
        x.put(1, 2, 77);
        x.keep(2, 1, 3, 3);
        x.restore();
        check.due("a kind stays", x.toss(0), 102);
        check.due("an element stays", x.element(1, 2), 77);
        check.due("a new one stays", x.cost(2), 1);
    }

    private static void count() {
        SideBySide x = Check.of("b00;b00;b00;t010;t120;t230;t399;l0;l2;d2;x24;");
        check.due("STROKES", x.count(0), 3);
        check.due("HITS", x.count(1), 1);
        check.due("HAS", x.count(2), 2);
        check.due("DRAUGHT and 1", x.count(3), 2);
        check.due("all TIRED", x.count(4), 11 + 20 + 31 + 99);
        check.due("LEFT ones", x.count(5), 5);
        check.due("count(6)", x.count(6), -1);
        check.due("count(-1)", x.count(-1), -1);
        for (int far : Check.NEITHER_NOR) {
            check.due("count(" + far + ")", x.count(far), -1);
        }
    }
}
