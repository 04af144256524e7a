/**
 * Where a HIT stops: TIRED at 99, POINTS at 99, HITS at 999; that nothing stops in mind; how far a partner goes;
 * what does not happen for a POINT; the 512th call.
 */
public final class EdgeOfHitsTest {
    private static final Check check = new Check();

    public static void main(String[] args) {
        whoHitsIsTiredTo99();
        whoGoesIsTiredTo99();
        bothAreTiredTo99();
        bothAreTiredForAPointToo();
        bothAreTiredFirst();
        hitterAndGoerApart();
        tiredStopsInMindToo();
        forAPointNobodyGoes();
        lesserNumberHasItBehindAPoint();
        partnerGoesHisSteps();
        partnerBehind();
        partnerStaysInHisPlace();
        partnerIsNotTired();
        outOfPlace();
        pointsUpTo99();
        pointsOfSide1UpTo99();
        pointsPass99InMind();
        hitsUpTo999();
        hitsPass999InMind();
        bothSidesAt99();
        imageTakesBackTheEnd();
        call512();
        check.end();
    }

    /** Behind a HIT: the same when it is called, told in a text, and in mind. */
    private static int tiredOf(String court, int stroke, int cell, int p) {
        SideBySide x = Check.of(court);
        int inMind = x.change(stroke, cell, p, 1);
        x.hit(stroke, cell);
        check.due("TIRED in mind, of " + p + ", by " + court, inMind, x.player(p, 2));
        SideBySide y = Check.of(court + "x" + stroke + cell + ";");
        check.due("TIRED by a text, of " + p + ", by " + court, y.player(p, 2), x.player(p, 2));
        return x.player(p, 2);
    }

    /** "who HAS it is TIRED by what it TIRES (99 at most)" */
    private static void whoHitsIsTiredTo99() {
        check.due("93 and 5", tiredOf("b10;t093;", 0, 8, 0), 98);
        check.due("94 and 5", tiredOf("b10;t094;", 0, 8, 0), 99);
        check.due("95 and 5", tiredOf("b10;t095;", 0, 8, 0), 99);
        check.due("99 and 5", tiredOf("b10;t099;", 0, 8, 0), 99);
        check.due("98 and 1", tiredOf("b00;t098;", 0, 8, 0), 99);
        check.due("99 and 1", tiredOf("b00;t099;", 0, 8, 0), 99);
        check.due("99 and 5 for a POINT", tiredOf("b19;t099;", 0, 3, 0), 99);
        check.due("93 and 5 for a POINT", tiredOf("b19;t093;", 0, 3, 0), 98);
    }

    /** "he goes to where it FALLS, is TIRED by that WAY more" */
    private static void whoGoesIsTiredTo99() {
        check.due("0 and 0", tiredOf("b30;", 0, 1, 2), 0);
        check.due("97 and 1", tiredOf("b30;t297;", 0, 0, 2), 98);
        check.due("98 and 1", tiredOf("b30;t298;", 0, 0, 2), 99);
        check.due("99 and 1", tiredOf("b30;t299;", 0, 0, 2), 99);
        check.due("95 and 4", tiredOf("b30;p201;p301;t295;", 0, 8, 2), 99);
        check.due("96 and 4", tiredOf("b30;p201;p301;t296;", 0, 8, 2), 99);
        check.due("94 and 4", tiredOf("b30;p201;p301;t294;", 0, 8, 2), 98);
    }

    /** "2 both's (then each is 3 more TIRED first, 99 at most)" */
    private static void bothAreTiredTo99() {
        for (int p = 2; p < 4; p++) {
            String court = "b30;h12;p241;p341;t" + p;
            check.due("95 and 3, of " + p, tiredOf(court + "95;", 0, 4, p), 98);
            check.due("96 and 3, of " + p, tiredOf(court + "96;", 0, 4, p), 99);
            check.due("97 and 3, of " + p, tiredOf(court + "97;", 0, 4, p), 99);
            check.due("99 and 3, of " + p, tiredOf(court + "99;", 0, 4, p), 99);
            check.due("0 and 3, of " + p, tiredOf(court + "00;", 0, 4, p), 3);
        }
        check.due("96 and 3 and a WAY of 2", tiredOf("b30;h12;t296;", 0, 3, 2), 99);
        check.due("93 and 3 and a WAY of 2", tiredOf("b30;h12;t293;", 0, 3, 2), 98);
        check.due("not alike", tiredOf("b30;h12;t296;", 0, 1, 2), 96);
        check.due("not alike, the other", tiredOf("b30;h12;t396;", 0, 1, 3), 96);
        check.due("HABIT 1", tiredOf("b30;h11;p241;p341;t296;", 0, 4, 2), 96);
        check.due("HABIT 2 of the other SIDE", tiredOf("b30;h02;p241;p341;t296;", 0, 4, 2), 96);
    }

    private static void bothAreTiredForAPointToo() {
        check.due("a POINT", Check.of("b19;h12;").wins(0, 3), 1);
        check.due("2 for a POINT", tiredOf("b19;h12;t295;", 0, 3, 2), 98);
        check.due("3 for a POINT", tiredOf("b19;h12;t397;", 0, 3, 3), 99);
        check.due("2 without a POINT by HABIT 0", tiredOf("b19;h10;t295;", 0, 3, 2), 95);
    }

    /** "first": his STEPS are those that he has when he is 3 more TIRED. */
    private static void bothAreTiredFirst() {
        check.due("26 and 3", Check.of("b19;h12;p212;p372;t226;").wins(0, 3), 0);
        check.due("27 and 3", Check.of("b19;h12;p212;p372;t227;").wins(0, 3), 1);
        check.due("27 of the other one", Check.of("b19;h12;p212;p372;t327;").wins(0, 3), 0);
        check.due("27 without 3", Check.of("b19;h11;p212;p372;t227;").wins(0, 3), 0);
        check.due("87 and 3 with PACE 4", Check.of("b19;h12;p214;p374;t287;").wins(0, 3), 1);
        check.due("86 and 3 with PACE 4", Check.of("b19;h12;p214;p374;t286;").wins(0, 3), 0);
        check.due("29 and the WAY", Check.of("b19;h11;p212;p372;t229;").wins(0, 3), 0);
    }

    /** Of each what is his: the four behind one HIT. */
    private static void hitterAndGoerApart() {
        SideBySide x = Check.of("b10;t010;t120;t230;t340;p212;");
        check.due("hit", x.hit(0, 3), 2);
        int[] due = {15, 20, 32, 40};
        for (int p = 0; p < 4; p++) {
            check.due("TIRED of " + p, x.player(p, 2), due[p]);
        }
    }

    /** "In mind POINTS may pass 99, HITS 999; nothing stops there": TIRED stops at 99 there too. */
    private static void tiredStopsInMindToo() {
        SideBySide x = Check.of("b30;b19;t098;t197;t298;t399;");
        check.due("who hits", x.change(0, 0, 0, 1), 99);
        check.due("who goes", x.change(0, 0, 2, 1), 99);
        Check.row(x, 0, Check.BYTES, 0, 0, 0, 8, 0, 0, 0, 8);
        check.due("all at 99, of several the least", x.spent(0), 0);
        check.due("most TIRED then, of several the least", x.atWhom(0), 0);
        x.tires(0, 0);
        x.tires(1, 0);
        check.due("of 2 and 3 the least", x.spent(0), 2);
    }

    /** "(For a POINT nobody goes.)" */
    private static void forAPointNobodyGoes() {
        SideBySide x = Check.of("b19;p254;p361;p001;p181;");
        for (int p = 0; p < 4; p++) {
            check.due("in mind, AT of " + p, x.change(0, 0, p, 0), new int[] {0, 8, 5, 6}[p]);
        }
        check.due("0 has it still", x.hit(0, 0), 0);
        check.due("POINTS", x.side(0, 2), 1);
        for (int p = 0; p < 4; p++) {
            check.due("AT of " + p, x.player(p, 0), new int[] {0, 8, 5, 6}[p]);
        }
    }

    /** "its lesser number HAS it": of the SIDE that hit, also if the greater one hit. */
    private static void lesserNumberHasItBehindAPoint() {
        SideBySide x = Check.of("b30;b19;x08;x08;");
        check.due("1 has it", x.count(2), 1);
        x.forms(1, 1, 0);
        Check.told(x, "p241;p341;");
        check.due("a POINT of 1", x.hit(1, 4), 0);
        check.due("0 has it", x.count(2), 0);
        check.due("0 has it in mind too", x.change(1, 4, 0, 1), x.player(0, 2) + 5);
        SideBySide y = Check.of("b30;b19;x08;");
        check.due("3 has it", y.count(2), 3);
        y.forms(0, 1, 0);
        Check.told(y, "p041;p141;");
        check.due("a POINT of 3", y.hit(1, 4), 2);
        check.due("POINTS", y.side(1, 2), 1);
    }

    private static int partnerAt(String court, int cell, int p) {
        SideBySide x = Check.of(court);
        int inMind = x.change(0, cell, p, 0);
        x.hit(0, cell);
        check.due("AT in mind, by " + court, inMind, x.player(p, 0));
        SideBySide y = Check.of(court + "x0" + cell + ";");
        check.due("AT by a text, by " + court, y.player(p, 0), x.player(p, 0));
        return x.player(p, 0);
    }

    /** "his partner goes towards his place, STEPS in that TIME at most, COLUMNS first: ROW 1, COLUMN 2 less the other's" */
    private static void partnerGoesHisSteps() {
        int[] at = {7, 8, 5, 5};
        int[] back = {1, 0, 3, 3};
        for (int pace = 1; pace <= 4; pace++) {
            check.due("from 6 to 5, PACE " + pace, partnerAt("b19;p201;p36" + pace + ";", 0, 3), at[pace - 1]);
            check.due("from 2 to 3, PACE " + pace, partnerAt("b19;p281;p32" + pace + ";", 8, 3), back[pace - 1]);
            check.due("of 3 the partner is 2, PACE " + pace, partnerAt("b19;p301;p26" + pace + ";", 0, 2), at[pace - 1]);
        }
        check.due("TIME 2, PACE 1", partnerAt("b14;p201;p361;", 0, 3), 8);
        check.due("TIME 2, PACE 2", partnerAt("b14;p201;p362;", 0, 3), 5);
        check.due("PACE 3, TIRED 29", partnerAt("b19;p201;p363;t329;", 0, 3), 5);
        check.due("PACE 3, TIRED 30", partnerAt("b19;p201;p363;t330;", 0, 3), 8);
        check.due("PACE 3, TIRED 60", partnerAt("b19;p201;p363;t360;", 0, 3), 7);
        check.due("PACE 1, TIRED 99", partnerAt("b19;p201;p361;t399;", 0, 3), 7);
        check.due("TIRED 27 and 3 as both's", partnerAt("b19;h12;p222;p362;t327;", 4, 3), 7);
        check.due("TIRED 26 and 3 as both's", partnerAt("b19;h12;p222;p362;t326;", 4, 3), 4);
        check.due("PACE 3, TIRED 57 and 3 as both's", partnerAt("b19;h12;p201;p303;t357;", 0, 3), 1);
        check.due("PACE 3, TIRED 56 and 3 as both's", partnerAt("b19;h12;p201;p303;t356;", 0, 3), 2);
    }

    /** "FORM 1: ROW 2 less the other's, COLUMN 1" */
    private static void partnerBehind() {
        int[] at = {7, 4, 1, 1};
        int[] back = {1, 4, 7, 7};
        for (int pace = 1; pace <= 4; pace++) {
            check.due("from 6 to 1, PACE " + pace, partnerAt("b19;f11;p281;p36" + pace + ";", 8, 3), at[pace - 1]);
            check.due("from 2 to 7, PACE " + pace, partnerAt("b19;f11;p201;p32" + pace + ";", 0, 3), back[pace - 1]);
        }
        check.due("FORM of the other SIDE", partnerAt("b19;f01;p281;p364;", 8, 3), 3);
    }

    private static void partnerStaysInHisPlace() {
        check.due("beside", partnerAt("b39;p201;p354;", 0, 3), 5);
        check.due("behind", partnerAt("b39;f11;p201;p374;", 0, 3), 7);
        check.due("both in the middle", partnerAt("b39;p241;p344;", 4, 3), 4);
        check.due("both in the middle, behind", partnerAt("b39;f11;p241;p344;", 4, 3), 4);
    }

    /** Only who goes for it is TIRED by his WAY; the other SIDE stays where it is. */
    private static void partnerIsNotTired() {
        check.due("the partner", tiredOf("b39;p201;p361;t310;", 0, 0, 3), 10);
        check.due("the partner of who hits", tiredOf("b39;t110;", 0, 0, 1), 10);
        check.due("who hits stays", partnerAt("b39;p061;", 0, 0), 6);
        check.due("his partner stays", partnerAt("b39;p161;", 0, 1), 6);
    }

    /** "OUT OF PLACE: how far its partner of who HAS it (of the other SIDE: of the lesser number) is from his place" */
    private static void outOfPlace() {
        check.due("none", Check.of("p001;p151;").side(0, 3), 0);
        check.due("three", Check.of("p001;p161;").side(0, 3), 3);
        check.due("none behind", Check.of("f01;p001;p171;").side(0, 3), 0);
        check.due("three behind", Check.of("f01;p001;p101;").side(0, 3), 3);
        check.due("none of the other SIDE", Check.of("p281;p331;").side(1, 3), 0);
        check.due("three of the other SIDE", Check.of("p281;p321;").side(1, 3), 3);
        // Each of the four has it once, and then they stand so.
        String[] given = {"", "x14;x17;", "x14;", "x17;"};
        int[][] beside = {{0, 2}, {1, 2}, {0, 2}, {0, 1}};
        int[][] behind = {{2, 2}, {2, 2}, {2, 2}, {2, 1}};
        for (int p = 0; p < 4; p++) {
            SideBySide x = Check.of("b19;b30;" + given[p] + "p021;p131;p241;p381;");
            check.due("who HAS it", x.count(2), p);
            check.due("beside, of SIDE 0 when " + p + " HAS it", x.side(0, 3), beside[p][0]);
            check.due("beside, of SIDE 1 when " + p + " HAS it", x.side(1, 3), beside[p][1]);
            Check.told(x, "f01;f11;");
            check.due("behind, of SIDE 0 when " + p + " HAS it", x.side(0, 3), behind[p][0]);
            check.due("behind, of SIDE 1 when " + p + " HAS it", x.side(1, 3), behind[p][1]);
        }
    }

    /** SIDE 0 makes a POINT by each HIT, and there were so many (11 times some). */
    private static SideBySide side0At(int times, int more) {
        SideBySide x = Check.of("b09;p211;p311;h10;");
        Check.text(x, 0, "x00;".repeat(11));
        for (int i = 0; i < times; i++) {
            x.court(0);
        }
        for (int i = 0; i < more; i++) {
            x.hit(0, 0);
        }
        return x;
    }

    /** "POINTS (0 .. 99)", "-3 POINTS of a SIDE 99" */
    private static void pointsUpTo99() {
        SideBySide x = side0At(8, 10);
        check.due("POINTS", x.side(0, 2), 98);
        check.due("two HITS told", Check.told(x, "d2;x00;x00;"), -2007);
        check.due("POINTS still", x.side(0, 2), 98);
        check.due("the last one", x.hit(0, 0), 0);
        check.due("POINTS then", x.side(0, 2), 99);
        check.due("HITS", x.count(1), 99);
        String ahead = Check.state(x);
        check.due("one more", x.hit(0, 0), -3);
        check.due("one that would be got", x.hit(0, 4), -3);
        check.due("one more told", Check.told(x, "x00;"), -2000);
        check.dueTrue("nothing has changed", ahead.equals(Check.state(x)));
        check.due("all else can still be told", Check.told(x, "b30;t000;d1;"), 3);
        SideBySide y = side0At(8, 10);
        check.due("the last one told", Check.told(y, "x00;"), 1);
        check.due("POINTS then", y.side(0, 2), 99);
    }

    private static void pointsOfSide1UpTo99() {
        SideBySide x = Check.of("b09;x08;p011;p111;h00;");
        check.due("3 has it", x.count(2), 3);
        Check.text(x, 0, "x00;".repeat(14));
        for (int i = 0; i < 7; i++) {
            check.due("14 HITS", x.court(0), 14);
        }
        check.due("POINTS", x.side(1, 2), 98);
        check.due("the last one", x.hit(0, 0), 2);
        check.due("POINTS then", x.side(1, 2), 99);
        check.due("one more", x.hit(0, 0), -3);
        x.forms(0, 1, 1);
        check.due("one that would be got", x.hit(0, 0), -3);
        check.due("one more told", Check.told(x, "d2;x00;"), -2003);
        check.due("POINTS of SIDE 0", x.side(0, 2), 0);
        check.due("HITS", x.count(1), 100);
    }

    /** "In mind POINTS may pass 99 ..; nothing stops there." */
    private static void pointsPass99InMind() {
        SideBySide x = side0At(9, 0);
        String ahead = Check.state(x);
        check.due("wins", x.wins(0, 8), 1);
        check.due("open", x.open(0), 511);
        check.due("forced", x.forced(), 0);
        check.due("fewest", x.fewest(0), 1);
        check.due("the first HIT", x.fewest(1), 0);
        check.due("nobody gets any", x.atWhom(0), -4);
        check.due("nobody's", x.farthest(0, 1), 99);
        check.due("AT behind a HIT", x.change(0, 0, 2, 0), 1);
        check.due("no CELL by HABIT 0", x.bestForm(1, 1), 0);
        check.due("all CELLS by HABIT 1", x.bestHabit(1, 1), 9);
        Check.row(x, 1, Check.BYTES, 0, 0);
        check.due("rally", x.rally(1, 0), 1);
        check.due("the SIDE", x.rally(1, 1), 0);
        check.due("ways", x.ways(1, 2), 0);
        check.due("forged", x.forged(1), -4);
        Check.row(x, 1, Check.BYTES, 0, 0, 0, 0);
        check.due("forged behind a POINT", x.forged(1), 1);
        Check.row(x, 1, Check.BYTES, 99, 100, 101, 102);
        check.due("judge", x.judge(1), -4);
        Check.row(x, 1, Check.BYTES, 99, 100, 100);
        check.due("judge", x.judge(1), 2);
        Check.row(x, 1, Check.BYTES, 99, 99);
        check.due("judge", x.judge(1), 1);
        // A byte of 128 is the least number and skipped; one of 129 is -127, which is not so.
        x.row(1, Check.BYTES, 32);
        for (int i = 0; i < 32; i++) {
            x.put(1, i, 99 + i);
        }
        check.due("judge by bytes past 127", x.judge(1), 30);
        check.due("nights", x.nights(20, 3, 0), 240);
        check.due("nights of the other SIDE", x.nights(20, 3, 1), 0);
        check.due("above", x.draughts(1, 2, 0), 0);
        check.due("below", x.draughts(1, 2, 1), 1);
        check.due("two", x.two(), 0);
        check.dueTrue("nothing has changed", ahead.equals(Check.state(x)));
    }

    /** Each HIT is got, and there were 999 less so many of them. */
    private static SideBySide hitsButFor(int less) {
        SideBySide x = Check.of("b30;");
        Check.text(x, 0, "x00;x08;".repeat(12) + "x00;");
        for (int i = 0; i < 39; i++) {
            x.court(0);
        }
        for (int i = 0; i < 24 - less; i++) {
            x.hit(0, i % 2 * 8);
        }
        return x;
    }

    /** "HITS (0 .. 999)", "-3 HITS 999" */
    private static void hitsUpTo999() {
        SideBySide x = hitsButFor(1);
        check.due("HITS", x.count(1), 998);
        check.due("no POINTS", x.side(0, 2) + x.side(1, 2), 0);
        check.due("two HITS told", Check.told(x, "d0;x00;x00;"), -2007);
        check.due("HITS still", x.count(1), 998);
        check.dueTrue("the last one", x.hit(0, 0) >= 0);
        check.due("HITS then", x.count(1), 999);
        String ahead = Check.state(x);
        check.due("one more", x.hit(0, 0), -3);
        check.due("one more to 8", x.hit(0, 8), -3);
        check.due("no such HIT", x.hit(0, 9), -1);
        check.due("one more told", Check.told(x, "d0;x00;"), -2003);
        check.dueTrue("nothing has changed", ahead.equals(Check.state(x)));
        SideBySide y = hitsButFor(1);
        check.due("the last one told", Check.told(y, "x00;"), 1);
        check.due("HITS then", y.count(1), 999);
    }

    /** "In mind .. HITS 999 (may be passed); nothing stops there." */
    private static void hitsPass999InMind() {
        SideBySide x = hitsButFor(0);
        check.due("HITS", x.count(1), 999);
        String ahead = Check.state(x);
        int his = x.whose(0, 2);
        check.due("who gets it goes", x.change(0, 2, his, 0), 2);
        check.due("wins", x.wins(0, 2), 0);
        check.due("forced", x.forced(), -4);
        check.due("fewest", x.fewest(0), -4);
        check.due("all at 99", x.atWhom(0) >= 0 ? 1 : 0, 1);
        check.due("best FORM of who has it not", x.bestForm(1, 1), 9);
        Check.row(x, 1, Check.BYTES, 0, 0, 0, 8, 0, 4);
        check.due("rally", x.rally(1, 0), 3);
        check.due("the SIDE", x.rally(1, 1), 2);
        check.due("forged", x.forged(1), -4);
        Check.row(x, 1, Check.BYTES, 0, 0, 0, 0, 1);
        check.due("judge", x.judge(1), 4);
        check.due("nights", x.nights(20, 3, 0) + x.nights(20, 3, 1), 0);
        check.due("draughts", x.draughts(1, 2, 0), 1);
        check.due("two", x.two(), 0);
        check.dueTrue("nothing has changed", ahead.equals(Check.state(x)));
        x.forms(0, 1, 0);
        x.forms(1, 1, 0);
        Check.told(x, "p001;p101;p201;p301;");
        check.due("a POINT is made in mind", x.wins(0, 0), 1);
        check.due("12 of them", x.nights(1, 3, x.count(2) / 2), 12);
    }

    /** Each SIDE's end is its own: 99 of one and 98 of the other stop it, 98 of both do not. */
    private static void bothSidesAt99() {
        SideBySide x = side0At(8, 10);
        check.due("got", Check.told(x, "h11;p204;x00;h00;p011;p111;"), 6);
        check.due("2 has it", x.count(2), 2);
        Check.text(x, 0, "x00;".repeat(14));
        for (int i = 0; i < 7; i++) {
            check.due("14 HITS", x.court(0), 14);
        }
        check.due("POINTS of both", x.side(0, 2) + 100 * x.side(1, 2), 9898);
        check.due("a HIT", x.hit(0, 0), 2);
        check.due("POINTS of both then", x.side(0, 2) + 100 * x.side(1, 2), 9998);
        check.due("no HIT", x.hit(0, 0), -3);
        Check.row(x, 1, Check.SHORTS, 197, 198, 199);
        check.due("of both together", x.judge(1), -4);
    }

    /** RESTORED, HITS and POINTS are as they were then, and a HIT is taken again. */
    private static void imageTakesBackTheEnd() {
        SideBySide x = side0At(8, 10);
        check.due("image", x.image(), 98);
        check.due("the last one", x.hit(0, 0), 0);
        check.due("one more", x.hit(0, 0), -3);
        check.due("restore", x.restore(), 98);
        check.due("POINTS", x.side(0, 2), 98);
        check.due("the last one again", x.hit(0, 0), 0);
        check.due("image at the end", x.image(), 99);
        check.due("restored at the end", x.restore(), 99);
        check.due("one more", x.hit(0, 0), -3);
    }

    /** "An object is used for at most 512 calls": the last of them is answered as any. */
    private static void call512() {
        SideBySide x = Check.of("b00;");
        int made = 6;
        for (; made < 510; made++) {
            check.due("call " + made, x.tires(0, made % 100), made == 6 ? 0 : (made - 1) % 100);
        }
        check.due("call 511", x.hit(0, 8), 3);
        check.due("call 512", x.player(0, 2), 10);
    }
}
