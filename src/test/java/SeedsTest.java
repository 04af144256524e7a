/** Promises 33 and 34: told points looked at, nights by seeds. */
public final class SeedsTest {
    // What the known generator with these two constants draws from seed 1.
    private static final int[] DRAWN = {16838, 5758, 10113, 17515, 31051, 5627, 23010, 7419, 16212, 4086, 2749, 12767,
        9084, 12060, 32225, 17543, 25089, 21183, 25137, 25566, 26966, 4978, 20495, 10311};
    private static final Check check = new Check();

    public static void main(String[] args) {
        judge();
        judgePastTheEnd();
        judgeRefusals();
        nightsOfPoints();
        nightOfDraws();
        nightsFollowOneAnother();
        nightsRefusals();
        check.end();
    }

    private static int judged(SideBySide x, int sort, int... points) {
        Check.row(x, 0, sort, points);
        return x.judge(0);
    }

    private static void judge() {
        SideBySide x = Check.of("b00;");
        check.due("all so", judged(x, Check.BYTES, 0, 0, 0, 0), -4);
        check.due("behind 0 hits", judged(x, Check.BYTES, 1), 0);
        check.due("behind 1 hit", judged(x, Check.SHORTS, 0, 1, 1), 1);
        check.due("skipped", judged(x, Check.BYTES, -128, -128, 1, 1), 2);
        check.due("skipped shorts", judged(x, Check.SHORTS, -32768, -128), 1);
        check.due("skipped ints", judged(x, Check.INTS, Integer.MIN_VALUE, -32768), 1);
        check.due("no numbers", judged(x, Check.INTS), -4);
        Check.told(x, "p211;p311;h10;");
        check.due("a point each", judged(x, Check.BYTES, 0, 1, 2, 3, 4), -4);
        check.due("the fourth", judged(x, Check.BYTES, 0, 1, 2, -128, 3), 4);
        Check.told(x, "x00;x00;x00;");
        check.due("of all there are", judged(x, Check.BYTES, 3, 4), -4);
        check.due("not of those more", judged(x, Check.BYTES, 0, 1), 0);
        // Both's points count: side 0 by the first hit, then side 0 has it again.
        Check.told(x, "p211;p371;h00;h11;p011;p111;");
        check.due("got by 2, then side 1's each", judged(x, Check.BYTES, 3, 3, 4, 5, 6), -4);
        check.due("judging is in mind", x.count(1), 3);
        // To CELLS 0, 8: a smash finds 8 empty, and then 0.
        SideBySide y = Check.of("b19;p201;p311;p081;p151;");
        check.due("0, then 8", judged(y, Check.BYTES, 0, 0, 0, 0), -4);
        SideBySide z = Check.of("b19;p201;p311;p001;p111;");
        check.due("8 is empty", judged(z, Check.BYTES, 0, 0, 0), 2);
        check.due("8 is empty, told so", judged(z, Check.BYTES, 0, 0, 1), -4);
    }

    private static void judgePastTheEnd() {
        SideBySide x = Check.of("b00;p211;p311;h10;");
        for (int i = 0; i < 50; i++) {
            x.hit(0, 0);
        }
        int[] points = new int[100];
        for (int i = 0; i < 100; i++) {
            points[i] = 50 + i;
        }
        check.due("points past 99 in mind", judged(x, Check.INTS, points), -4);
        points[99]--;
        check.due("the last is not so", judged(x, Check.SHORTS, points), 99);
    }

    private static void judgeRefusals() {
        SideBySide x = new SideBySide();
        check.due("judge(-1)", x.judge(-1), -1);
        check.due("judge(8)", x.judge(8), -1);
        check.due("nothing held", x.judge(0), -11);
        x.keep(0, 1, 0, 0);
        check.due("a kind", x.judge(0), -12);
        x.row(0, 0, 0);
        check.due("no strokes", x.judge(0), -3);
    }

    private static void nightsOfPoints() {
        SideBySide x = Check.of("b00;p211;p311;h10;x00;");
        for (int n = 1; n <= 20; n++) {
            check.due("a point each", x.nights(n, 7 * n, 0), 12 * n);
            check.due("none of side 1", x.nights(n, -n, 1), 0);
        }
        SideBySide y = Check.of("b30;");
        check.due("lifts are got", y.nights(20, 5, 0) + y.nights(20, 5, 1), 0);
    }

    private static final String COURT = "b44;b44;b61;b22;b19;p042;p102;p241;p371;h00;h12;f01;";

    private static void nightOfDraws() {
        SideBySide played = Check.of(COURT);
        for (int i = 0; i < 24; i += 2) {
            played.hit(DRAWN[i] % 5, DRAWN[i + 1] % 9);
        }
        SideBySide x = Check.of(COURT);
        check.dueTrue("points are made", played.side(0, 2) > 0 && played.side(1, 2) > 0);
        check.due("side 0", x.nights(1, 1, 0), played.side(0, 2));
        check.due("side 1", x.nights(1, 1, 1), played.side(1, 2));
        check.due("in mind", x.count(1), 0);
    }

    private static int seedBehind(int z, int draws) {
        for (int i = 0; i < draws; i++) {
            z = z * 1103515245 + 12345;
        }
        return z;
    }

    private static void nightsFollowOneAnother() {
        SideBySide x = Check.of(COURT);
        int[] seeds = {1, 0, -1, 123456789, Integer.MIN_VALUE, Integer.MAX_VALUE};
        for (int z : seeds) {
            for (int what = 0; what < 2; what++) {
                int sum = 0;
                for (int night = 0; night < 20; night++) {
                    sum += x.nights(1, seedBehind(z, 24 * night), what);
                }
                check.due("20 nights of " + z, x.nights(20, z, what), sum);
            }
        }
    }

    private static void nightsRefusals() {
        SideBySide x = new SideBySide();
        check.due("no strokes", x.nights(1, 1, 0), -3);
        check.due("nights(0, 1, 0)", x.nights(0, 1, 0), -1);
        check.due("nights(21, 1, 0)", x.nights(21, 1, 0), -1);
        check.due("nights(-1, 1, 0)", x.nights(-1, 1, 0), -1);
        check.due("nights(1, 1, 2)", x.nights(1, 1, 2), -1);
        check.due("nights(1, 1, -1)", x.nights(1, 1, -1), -1);
    }
}
