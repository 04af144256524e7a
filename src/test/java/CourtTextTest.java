/** Promises 1 and 2: the new object, the text of a court. */
public final class CourtTextTest {
    private static final Check check = new Check();

    public static void main(String[] args) {
        newObject();
        everyStatement();
        wrongBytes();
        wrongStatements();
        textThatFollowsItself();
        hitsAndPointsEnd();
        refusals();
        check.end();
    }

    private static void newObject() {
        SideBySide x = new SideBySide();
        check.dueTrue("a new object", Check.state(x).equals(
            "0 0 0 1 0 0 1 1 0 0 7 1 0 0 1 1 0 0 7 1 0 0 0 1 0 0 1 0 "));
        for (int d = 0; d < 8; d++) {
            check.due("cost(" + d + ") at first", x.cost(d), -11);
        }
        check.due("restore() at first", x.restore(), -3);
    }

    private static void everyStatement() {
        SideBySide x = new SideBySide();
        check.due("court", Check.told(x, "b47;b09;p084;p331;t399;t005;l1;l2;l1;f11;h03;d2;"), 12);
        check.dueTrue("all of it came", Check.state(x).equals(
            "2 0 0 2 104 4 8 4 5 0 7 1 0 0 1 1 0 1 3 1 99 0 0 3 0 1 1 0 4/7 0/9 "));
        check.due("court, a hit", Check.told(x, "d0;h01;x14;"), 3);
        check.due("HITS", x.count(1), 1);
        check.due("DRAUGHT and 1", x.count(3), 0);
        check.due("HAS", x.count(2), 2);
        check.due("the text stays", x.element(7, 2), ';');
        check.due("court again", x.court(7), 3);
        check.due("HITS again", x.count(1), 2);
    }

    private static void wrongByte(String text, int place) {
        SideBySide x = new SideBySide();
        check.due("court \"" + text + "\"", Check.told(x, text), -1000 - place);
        check.due("nothing came of \"" + text + "\"", x.count(0) + x.count(1) + x.count(4), 0);
    }

    private static void wrongBytes() {
        wrongByte("", 0);
        wrongByte(";", 0);
        wrongByte(" b00;", 0);
        wrongByte("B00;", 0);
        wrongByte("q00;", 0);
        wrongByte("0", 0);
        wrongByte("b", 1);
        wrongByte("b0", 2);
        wrongByte("b00", 3);
        wrongByte("b;", 1);
        wrongByte("b0;", 2);
        wrongByte("b000;", 3);
        wrongByte("b:0;", 1);
        wrongByte("b/0;", 1);
        wrongByte("b00:", 3);
        wrongByte("b00;;", 4);
        wrongByte("b00; ", 4);
        wrongByte("b00;\0", 4);
        wrongByte("b00;p", 5);
        wrongByte("p01;", 3);
        wrongByte("p0111;", 4);
        wrongByte("t01;", 3);
        wrongByte("t0123;", 4);
        wrongByte("t0-1;", 2);
        wrongByte("l;", 1);
        wrongByte("l00;", 2);
        wrongByte("f0;", 2);
        wrongByte("f000;", 3);
        wrongByte("h1;", 2);
        wrongByte("h111;", 3);
        wrongByte("d;", 1);
        wrongByte("d10;", 2);
        wrongByte("x0;", 2);
        wrongByte("x000;", 3);
        wrongByte("b00" + (char) 0xbb, 3);
        // A byte that can't be goes ahead of a statement that can't.
        wrongByte("b80;q", 4);
        wrongByte("x00;b00", 7);
    }

    private static void wrongStatement(String text, int place) {
        SideBySide x = new SideBySide();
        String ahead = Check.state(x);
        check.due("court \"" + text + "\"", Check.told(x, text), -2000 - place);
        check.dueTrue("nothing came of \"" + text + "\"", Check.state(x).equals(ahead));
    }

    private static void wrongStatements() {
        wrongStatement("b80;", 0);
        wrongStatement("b99;", 0);
        wrongStatement("p401;", 0);
        wrongStatement("p091;", 0);
        wrongStatement("p000;", 0);
        wrongStatement("p005;", 0);
        wrongStatement("t400;", 0);
        wrongStatement("l4;", 0);
        wrongStatement("f20;", 0);
        wrongStatement("f02;", 0);
        wrongStatement("h20;", 0);
        wrongStatement("h04;", 0);
        wrongStatement("d3;", 0);
        wrongStatement("x00;", 0);
        wrongStatement("b00;x10;", 4);
        wrongStatement("b00;x09;", 4);
        wrongStatement("x00;b00;", 0);
        wrongStatement("t399;l0;d2;f11;h12;p083;b11;b80;", 28);
        wrongStatement("b00;b00;b00;b00;b00;b00;b00;b00;b00;", 32);
        wrongStatement("b80;b90;", 0);
    }

    private static void textThatFollowsItself() {
        SideBySide x = new SideBySide();
        check.due("a stroke told just ahead", Check.told(x, "b00;x04;"), 2);
        check.due("who has it", x.count(2), 2);
        check.due("hand there and back", Check.told(x, "l3;l3;l3;"), 3);
        check.due("left ones", x.count(5), 8);
        check.due("seven more", Check.told(x, "b10;b20;b30;b40;b50;b60;b70;"), 7);
        check.due("no room", Check.told(x, "d1;b00;"), -2003);
    }

    private static String hits(int n) {
        return "x00;".repeat(n);
    }

    private static void hitsAndPointsEnd() {
        // Nobody's for ever: side 0 makes a point by each hit.
        SideBySide x = Check.of("b09;p211;p311;h10;");
        Check.text(x, 0, hits(25));
        Check.text(x, 1, hits(24));
        for (int i = 0; i < 3; i++) {
            check.due("25 hits", x.court(0), 25);
        }
        check.due("24 points fit, one more does not", x.court(0), -2096);
        check.due("nothing came", x.side(0, 2), 75);
        check.due("24 hits", x.court(1), 24);
        check.due("POINTS", x.side(0, 2), 99);
        check.due("a hit told", Check.told(x, "d2;x00;"), -2003);
        check.due("no draught", x.count(3), 1);
        check.due("a hit", x.hit(0, 0), -3);
        check.due("no such hit", x.hit(1, 0), -1);
        check.due("in mind points go on", x.wins(0, 0), 1);
        check.due("a night goes on", x.nights(1, 1, 0), 12);

        // And side 1 the same.
        SideBySide z = Check.of("b09;x08;p011;p111;h00;");
        Check.text(z, 0, hits(11));
        for (int i = 0; i < 9; i++) {
            check.due("11 hits", z.court(0), 11);
        }
        check.due("POINTS of side 1", z.side(1, 2), 99);
        check.due("a hit told", Check.told(z, "x00;"), -2000);
        check.due("a hit", z.hit(0, 0), -3);

        // Lifts are always got, so hits run out ahead of points.
        SideBySide y = Check.of("b30;");
        Check.text(y, 0, hits(25));
        Check.text(y, 1, hits(24));
        for (int i = 0; i < 39; i++) {
            check.due("25 hits", y.court(0), 25);
        }
        check.due("24 hits fit, one more does not", y.court(0), -2096);
        check.due("24 hits", y.court(1), 24);
        check.due("HITS", y.count(1), 999);
        check.due("a hit told", Check.told(y, "x00;"), -2000);
        check.due("a hit", y.hit(0, 0), -3);
        check.due("in mind hits go on", y.change(0, 8, y.whose(0, 8), 0), 8);
        check.due("no points", y.side(0, 2) + y.side(1, 2), 0);
    }

    private static void refusals() {
        SideBySide x = new SideBySide();
        check.due("court(-1)", x.court(-1), -1);
        check.due("court(8)", x.court(8), -1);
        for (int far : Check.NEITHER_NOR) {
            check.due("court(" + far + ")", x.court(far), -1);
        }
        check.due("court of nothing", x.court(0), -11);
        x.keep(0, 1, 0, 0);
        check.due("court of a kind", x.court(0), -12);
        Check.row(x, 0, Check.SHORTS, 'd', '2', ';');
        check.due("court of shorts", x.court(0), -12);
        Check.row(x, 0, Check.INTS, 'd', '2', ';');
        check.due("court of ints", x.court(0), -12);
        Check.row(x, 0, Check.BYTES, 'd', '2' + 256, ';' - 512);
        check.due("court of bytes", x.court(0), 1);
    }
}
