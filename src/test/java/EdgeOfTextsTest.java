/** THE TEXT of a COURT: each place where it may have a FAULT, the bounds of each figure in it, and what a FAULT leaves. */
public final class EdgeOfTextsTest {
    private static final int STROKES = 3;
    private static final String AHEAD = "b00;b30;b79;";
    private static final Check check = new Check();

    public static void main(String[] args) {
        oneStatementAtLeast();
        emptyAndFullRows();
        somethingLacks();
        wrongBytes();
        lettersThatAreNone();
        justAsManyDigits();
        strokesTold();
        playersTold();
        tiredTold();
        handsTold();
        formsTold();
        habitsTold();
        draughtsTold();
        hitsTold();
        noRoom();
        oneBehindTheOther();
        theFirstFault();
        nothingComes();
        textStays();
        bytesAlone();
        check.end();
    }

    private static SideBySide ahead() {
        return Check.of(AHEAD + "t011;t122;d0;h13;f01;l2;x18;");
    }

    /** That it has this FAULT, and that nothing of it comes. */
    private static void fault(String text, int want) {
        check.changesNothing("court \"" + text + "\"", want, () -> {
            SideBySide x = ahead();
            Check.text(x, 5, text);
            return x;
        }, x -> x.court(5));
    }

    private static void fine(String text, int statements) {
        SideBySide x = ahead();
        check.due("court \"" + text + "\"", Check.told(x, text), statements);
    }

    /** "STATEMENTS, each with \";\" behind, one at least" */
    private static void oneStatementAtLeast() {
        fault("", -1000);
        fault(";", -1000);
        fine("d0;", 1);
        fine("l3;l3;", 2);
        fault("d0;;", -1003);
    }

    /** A ROW has 0 .. 100 elements: so a text has 0 .. 100 bytes. */
    private static void emptyAndFullRows() {
        fine("x18;".repeat(25), 25);
        fine("d1;".repeat(32) + "b00;", 33);
        fine("t000;".repeat(20), 20);
        fine("d1;".repeat(33), 33);
        fault("d1;".repeat(33) + "d", -1100);
        fault("d1;".repeat(33) + "1", -1099);
        fault("d1;".repeat(32) + "b00:", -1099);
        fault("d1;".repeat(32) + "b000", -1099);
        fault("d1;".repeat(32) + "t000", -1100);
        fault("d1;".repeat(32) + "b80;", -2096);
        fault("d1;".repeat(32) + "x08" + "x", -1099);
        fault("d3;" + "d1;".repeat(32) + "l", -1100);
        fault("d1;".repeat(33) + "\0", -1099);
    }

    private static final String[] WHOLE = {"b79;", "p384;", "t399;", "l3;", "f11;", "h13;", "d2;", "x28;"};

    /** "kind 1 the place of the first byte with which no COURT can go on (the end, if something lacks)" */
    private static void somethingLacks() {
        for (String one : WHOLE) {
            for (int n = 0; n < one.length(); n++) {
                if (n > 0) {
                    fault(one.substring(0, n), -1000 - n);
                    fault("d1;" + one.substring(0, n), -1003 - n);
                }
            }
            fine(one, 1);
            fine("d1;" + one, 2);
        }
    }

    /** Beside '0' and '9' and ';' and far from them. */
    private static void wrongBytes() {
        char[] signs = {'/', ':', ';', '<', ' ', 'a', 0, 127, 128, 255, (char) ('0' + 128)};
        for (String one : WHOLE) {
            for (int i = 1; i < one.length(); i++) {
                for (char sign : signs) {
                    if (sign == ';' && i == one.length() - 1) {
                        continue;
                    }
                    String wrong = one.substring(0, i) + sign + one.substring(i + 1);
                    fault(wrong, -1000 - i);
                    fault("h00;" + wrong, -1004 - i);
                }
            }
        }
        for (String one : WHOLE) {
            fault(one.substring(0, one.length() - 1) + "0", -1000 - (one.length() - 1));
            fault(one.substring(0, one.length() - 1) + "0;", -1000 - (one.length() - 1));
        }
    }

    private static void lettersThatAreNone() {
        for (char sign = 0; sign < 256; sign++) {
            if ("bptlfhdx".indexOf(sign) < 0) {
                SideBySide x = new SideBySide();
                check.due("letter " + (int) sign, Check.told(x, sign + "00;"), -1000);
                check.due("letter " + (int) sign + " behind one", Check.told(x, "d1;" + sign + "00;"), -1003);
            }
        }
    }

    /** "numbers in THE TEXT have just as many digits as told" */
    private static void justAsManyDigits() {
        String[] fewer = {"b0;", "p00;", "t00;", "l;", "f0;", "h0;", "d;", "x0;"};
        String[] more = {"b000;", "p0000;", "t0000;", "l00;", "f000;", "h000;", "d00;", "x000;"};
        for (String text : fewer) {
            fault(text, -1000 - (text.length() - 1));
        }
        for (String text : more) {
            fault(text, -1000 - (text.length() - 2));
        }
    }

    /** "b" KIND 0 .. 7, FIGURE 0 .. 9 */
    private static void strokesTold() {
        for (int kind = 0; kind < 10; kind++) {
            for (int figure = 0; figure < 10; figure++) {
                String text = "b" + kind + figure + ";";
                if (kind > 7) {
                    fault(text, -2000);
                    continue;
                }
                SideBySide x = ahead();
                check.due(text, Check.told(x, text), 1);
                check.due("KIND by " + text, x.stroke(STROKES, 0), kind);
                check.due("FIGURE by " + text, x.stroke(STROKES, 1), figure);
                check.due("STROKES", x.count(0), STROKES + 1);
            }
        }
    }

    /** "p" one of them, a CELL, PACE 1 .. 4 */
    private static void playersTold() {
        for (int p = 0; p < 10; p++) {
            for (int pace = 0; pace < 10; pace++) {
                String text = "p" + p + (p + pace) % 9 + pace + ";";
                if (p > 3 || pace < 1 || pace > 4) {
                    fault(text, -2000);
                    continue;
                }
                SideBySide x = ahead();
                check.due(text, Check.told(x, text), 1);
                check.due("AT by " + text, x.player(p, 0), (p + pace) % 9);
                check.due("PACE by " + text, x.player(p, 1), pace);
            }
        }
        fault("p091;", -2000);
        fault("p394;", -2000);
        fine("p081;", 1);
        fine("p001;", 1);
    }

    /** "t" one of them, TIRED 0 .. 99 in two digits */
    private static void tiredTold() {
        int[] figures = {0, 1, 9, 10, 90, 98, 99};
        for (int p = 0; p < 10; p++) {
            for (int v : figures) {
                String text = "t" + p + v / 10 + v % 10 + ";";
                if (p > 3) {
                    fault(text, -2000);
                    continue;
                }
                SideBySide x = ahead();
                check.due(text, Check.told(x, text), 1);
                check.due("TIRED by " + text, x.player(p, 2), v);
            }
        }
    }

    /** "l" one of them: LEFT-handed, or, told again, not */
    private static void handsTold() {
        for (int p = 0; p < 10; p++) {
            if (p > 3) {
                fault("l" + p + ";", -2000);
                continue;
            }
            SideBySide x = new SideBySide();
            check.due("once", Check.told(x, "l" + p + ";"), 1);
            check.due("LEFT ones", x.count(5), 1 << p);
            check.due("again", Check.told(x, "l" + p + ";"), 1);
            check.due("LEFT ones then", x.count(5), 0);
            check.due("twice in one", Check.told(x, "l" + p + ";l" + p + ";"), 2);
            check.due("LEFT ones at last", x.count(5), 0);
        }
    }

    /** "f" a SIDE, FORM 0, 1 */
    private static void formsTold() {
        for (int s = 0; s < 10; s++) {
            for (int v = 0; v < 10; v++) {
                String text = "f" + s + v + ";";
                if (s > 1 || v > 1) {
                    fault(text, -2000);
                    continue;
                }
                SideBySide x = ahead();
                check.due(text, Check.told(x, text), 1);
                check.due("FORM by " + text, x.side(s, 0), v);
            }
        }
    }

    /** "h" a SIDE, HABIT 0 .. 3 */
    private static void habitsTold() {
        for (int s = 0; s < 10; s++) {
            for (int v = 0; v < 10; v++) {
                String text = "h" + s + v + ";";
                if (s > 1 || v > 3) {
                    fault(text, -2000);
                    continue;
                }
                SideBySide x = ahead();
                check.due(text, Check.told(x, text), 1);
                check.due("HABIT by " + text, x.side(s, 1), v);
            }
        }
    }

    /** "d" DRAUGHT and 1: 0 .. 2 */
    private static void draughtsTold() {
        for (int v = 0; v < 10; v++) {
            String text = "d" + v + ";";
            if (v > 2) {
                fault(text, -2000);
                continue;
            }
            SideBySide x = ahead();
            check.due(text, Check.told(x, text), 1);
            check.due("DRAUGHT and 1 by " + text, x.count(3), v);
        }
    }

    /** "x" a STROKE, a CELL: a HIT */
    private static void hitsTold() {
        for (int s = 0; s < 10; s++) {
            for (int cell = 0; cell < 10; cell++) {
                String text = "x" + s + cell + ";";
                if (s >= STROKES || cell > 8) {
                    fault(text, -2000);
                    continue;
                }
                SideBySide x = ahead();
                SideBySide y = ahead();
                check.due(text, Check.told(x, text), 1);
                check.due("who has it by " + text, x.count(2), y.hit(s, cell));
                check.due("HITS by " + text, x.count(1), 2);
            }
        }
        SideBySide x = new SideBySide();
        check.due("no STROKES", Check.told(x, "x00;"), -2000);
        check.due("the last STROKE of 8", Check.told(x, "b00;".repeat(8) + "x78;"), 9);
        check.due("no STROKE 8", Check.told(x, "x80;"), -2000);
    }

    /** "no room": 8 STROKES at most. */
    private static void noRoom() {
        fine("b00;".repeat(5), 5);
        fault("b00;".repeat(6), -2020);
        fault("d2;" + "b00;".repeat(6), -2023);
        SideBySide x = Check.of("b00;".repeat(8));
        check.due("one more", Check.told(x, "b00;"), -2000);
        check.due("one more behind", Check.told(x, "h00;b00;"), -2004);
        check.due("none more", Check.told(x, "h00;"), 1);
        check.due("STROKES", x.count(0), 8);
    }

    /** "STATEMENTS are tried one behind the other, each on what those ahead of it made" */
    private static void oneBehindTheOther() {
        fault("x30;b00;", -2000);
        fine("b00;x30;", 2);
        fault("b00;x30;x40;", -2008);
        fine("b00;x30;b00;x40;", 4);
        SideBySide x = new SideBySide();
        check.due("the later one counts", Check.told(x, "t005;t007;d0;d2;f01;f00;h03;h02;p004;p053;"), 10);
        check.due("TIRED", x.player(0, 2), 7);
        check.due("DRAUGHT and 1", x.count(3), 2);
        check.due("FORM and HABIT", x.side(0, 0) + 10 * x.side(0, 1), 20);
        check.due("AT and PACE", x.player(0, 0) + 10 * x.player(0, 1), 35);
    }

    /** Kind 1 is told ahead of kind 2, wherever they are; of each kind the first. */
    private static void theFirstFault() {
        fault("b80;b90;", -2000);
        fault("b00;b90;b80;", -2004);
        fault("b80;b0", -1006);
        fault("b80;q", -1004);
        fault("q00;b80;", -1000);
        fault("b80;b0:;b0:;", -1006);
        fault("d3;d:;", -1004);
        fault("d3;d1;", -2000);
        fault("d1;d3;", -2003);
    }

    private static void nothingComes() {
        for (String one : WHOLE) {
            fault(one + "d3;", -2000 - one.length());
            fault(one + "d", -1001 - one.length());
            fault(one + "l4;" + one, -2000 - one.length());
        }
        fault("b79;p384;t399;l3;f11;h13;d2;x28;x38;x48;", -2000 - 36);
    }

    /** "The ROW of a text .. stay there" */
    private static void textStays() {
        SideBySide x = Check.of("b00;");
        Check.text(x, 2, "x00;d2;");
        for (int i = 1; i <= 4; i++) {
            check.due("court", x.court(2), 2);
            check.due("HITS", x.count(1), i);
        }
        String text = "x00;d2;";
        for (int i = 0; i < text.length(); i++) {
            check.due("byte " + i, x.element(2, i), text.charAt(i));
        }
        Check.text(x, 3, "x00;d3;");
        check.due("court with a FAULT", x.court(3), -2004);
        check.due("byte 5", x.element(3, 5), '3');
    }

    /** "a ROW of bytes": what is put in keeps its lowest bits, and shorts and ints are no text. */
    private static void bytesAlone() {
        SideBySide x = new SideBySide();
        Check.row(x, 0, Check.BYTES, 'd' + 256, '2' - 256, ';' + 65536);
        check.due("lowest bits", x.court(0), 1);
        check.due("DRAUGHT and 1", x.count(3), 2);
        for (int sort = 1; sort < 3; sort++) {
            Check.row(x, 0, sort, 'd', '0', ';');
            check.due("SORT " + sort, x.court(0), -12);
        }
        check.due("DRAUGHT and 1 still", x.count(3), 2);
    }
}
