/**
 * Of every call: the last numbers that are taken and the first that are refused, of each argument; which refusal is
 * told, if there are several; that a refused call changes nothing, and that a call that only tells does not either.
 */
public final class EdgeOfRefusalsTest {
    private static final long NO_LONG = 1000000001L;
    private static final int PUSH = 0;
    private static final int UNWHOLE = 1;
    private static final int RALLY = 2;
    private static final int TEN = 3;
    private static final int NOTHING = 4;
    private static final int EMPTY = 5;
    private static final int TEXT = 6;
    private static final int LIFT = 7;
    private static final Check check = new Check();

    private interface Asked {
        long on(SideBySide x, int[] a);
    }

    /** Lays something on a shelf. */
    private interface Laid {
        void on(SideBySide x, int d);
    }

    private static final Laid NONE = (x, d) -> { };
    private static final Laid KIND = (x, d) -> x.keep(d, 1, 2, 5);
    private static final Laid STATEMENT = (x, d) -> Check.text(x, d, "d0;");
    private static final Laid HIT = (x, d) -> Check.row(x, d, Check.SHORTS, 0, 8);
    private static final Laid ZERO = (x, d) -> Check.row(x, d, Check.INTS, 0);
    private static final Laid THREE = (x, d) -> Check.row(x, d, Check.BYTES, 5, 6, 7);

    public static void main(String[] args) {
        theCourtAsTold();
        whoseItIs();
        best();
        rallies();
        whichItWas();
        toldAndNights();
        image();
        shelves();
        elements();
        severalRefusalsOfTexts();
        severalRefusalsOfHits();
        severalRefusalsOfRows();
        severalRefusalsWithoutStrokes();
        severalRefusalsOfCopy();
        longsAreToldLikewise();
        check.end();
    }

    // ---- objects to ask

    /** All of it is other than at first, and the image is other than now. */
    private static SideBySide busy() {
        SideBySide x = Check.of("b05;b19;p054;t012;l1;f01;h12;d2;x04;x13;");
        x.image();
        Check.told(x, "b77;p101;t345;l2;h03;f11;d0;x00;");
        x.keep(PUSH, 1, 4, 7);
        Check.row(x, UNWHOLE, Check.BYTES, 0, 8, 0);
        Check.row(x, RALLY, Check.SHORTS, 0, 8, 1, 3);
        Check.row(x, TEN, Check.INTS, 0, 1, 2, 3, 4, 5, 6, 7, 8, 9);
        x.row(EMPTY, Check.INTS, 0);
        Check.text(x, TEXT, "d2;h01;");
        x.keep(LIFT, 1, 3, 5);
        return x;
    }

    private static SideBySide busyWith(Laid laid) {
        SideBySide x = busy();
        laid.on(x, 0);
        laid.on(x, 7);
        return x;
    }

    /** Shelves as in a busy one, but no STROKES and no image. */
    private static SideBySide bare() {
        SideBySide x = new SideBySide();
        x.keep(PUSH, 1, 4, 7);
        Check.row(x, UNWHOLE, Check.BYTES, 0, 8, 0);
        Check.row(x, RALLY, Check.SHORTS, 0, 8, 1, 3);
        Check.row(x, TEN, Check.INTS, 0, 1, 2, 3, 4, 5, 6, 7, 8, 9);
        x.row(EMPTY, Check.INTS, 0);
        x.keep(LIFT, 1, 3, 5);
        return x;
    }

    private static SideBySide full() {
        SideBySide x = busy();
        for (int s = x.count(0); s < 8; s++) {
            x.learns(PUSH);
        }
        return x;
    }

    // ---- each argument, on both sides of its bounds

    private static int[] from(int least, int most) {
        return new int[] {least, most};
    }

    private static int[] base(int... a) {
        return a;
    }

    private static int[] with(int[] base, int i, int v) {
        int[] a = base.clone();
        a[i] = v;
        return a;
    }

    private static String told(String name, int[] a) {
        StringBuilder b = new StringBuilder(name).append('(');
        for (int i = 0; i < a.length; i++) {
            b.append(i > 0 ? ", " : "").append(a[i]);
        }
        return b.append(')').toString();
    }

    private static boolean isRefusal(long answer) {
        return answer < 0 && answer != -4 || answer >= NO_LONG;
    }

    /** Bounds of null: any number is taken there. */
    private static void bounds(String name, long refusal, Laid laid, Asked asked, int[] base, int[]... bounds) {
        for (int i = 0; i < bounds.length; i++) {
            if (bounds[i] == null) {
                taken(name, laid, asked, with(base, i, Integer.MIN_VALUE));
                taken(name, laid, asked, with(base, i, Integer.MAX_VALUE));
                continue;
            }
            int least = bounds[i][0];
            int most = bounds[i][1];
            taken(name, laid, asked, with(base, i, least));
            taken(name, laid, asked, with(base, i, most));
            int[] beyond = {least - 1, most + 1, Integer.MIN_VALUE, Integer.MAX_VALUE};
            for (int v : beyond) {
                int[] a = with(base, i, v);
                check.changesNothing(told(name, a), refusal, () -> busyWith(laid), x -> asked.on(x, a));
            }
        }
    }

    private static void taken(String name, Laid laid, Asked asked, int[] a) {
        long answer = asked.on(busyWith(laid), a);
        check.dueTrue(told(name, a) + " is taken, not " + answer, !isRefusal(answer));
    }

    /** The same for a call that only tells: when it is taken, it changes nothing. */
    private static void tells(String name, long refusal, Laid laid, Asked asked, int[] base, int[]... bounds) {
        bounds(name, refusal, laid, asked, base, bounds);
        for (int i = 0; i < bounds.length; i++) {
            for (int j = 0; j < 2 && bounds[i] != null; j++) {
                int[] a = with(base, i, bounds[i][j]);
                long answer = asked.on(busyWith(laid), a);
                check.changesNothing(told(name, a), answer, () -> busyWith(laid), x -> asked.on(x, a));
            }
        }
    }

    private static void theCourtAsTold() {
        bounds("court", -1, STATEMENT, (x, a) -> x.court(a[0]), base(0), from(0, 7));
        tells("stroke", -1, NONE, (x, a) -> x.stroke(a[0], a[1]), base(0, 0), from(0, 2), from(0, 4));
        tells("player", -1, NONE, (x, a) -> x.player(a[0], a[1]), base(0, 0), from(0, 3), from(0, 4));
        tells("side", -1, NONE, (x, a) -> x.side(a[0], a[1]), base(0, 0), from(0, 1), from(0, 3));
        bounds("learns", -1, KIND, (x, a) -> x.learns(a[0]), base(0), from(0, 7));
        bounds("stands", -1, NONE, (x, a) -> x.stands(a[0], a[1], a[2]), base(0, 0, 1), from(0, 3), from(0, 8), from(1, 4));
        bounds("tires", -1, NONE, (x, a) -> x.tires(a[0], a[1]), base(0, 0), from(0, 3), from(0, 99));
        bounds("hands", -1, NONE, (x, a) -> x.hands(a[0]), base(0), from(0, 3));
        bounds("forms", -1, NONE, (x, a) -> x.forms(a[0], a[1], a[2]), base(0, 0, 0), from(0, 1), from(0, 1), from(0, 1));
        bounds("forms", -1, NONE, (x, a) -> x.forms(a[0], a[1], a[2]), base(1, 1, 0), from(0, 1), from(0, 1), from(0, 3));
        bounds("blows", -1, NONE, (x, a) -> x.blows(a[0]), base(0), from(0, 2));
        bounds("hit", -1, NONE, (x, a) -> x.hit(a[0], a[1]), base(0, 0), from(0, 2), from(0, 8));
    }

    private static void whoseItIs() {
        tells("whose", -1, NONE, (x, a) -> x.whose(a[0], a[1]), base(0, 0), from(0, 2), from(0, 8));
        tells("wins", -1, NONE, (x, a) -> x.wins(a[0], a[1]), base(0, 0), from(0, 2), from(0, 8));
        tells("falls", -1, NONE, (x, a) -> x.falls(a[0], a[1]), base(0, 0), from(0, 2), from(0, 8));
        tells("open", -1, NONE, (x, a) -> x.open(a[0]), base(0), from(0, 2));
        tells("forced", -1, NONE, (x, a) -> x.forced(), base(0));
        tells("farthest", -1, NONE, (x, a) -> x.farthest(a[0], a[1]), base(0, 0), from(0, 2), from(0, 1));
        tells("atWhom", -1, NONE, (x, a) -> x.atWhom(a[0]), base(0), from(0, 2));
        tells("change", -1, NONE, (x, a) -> x.change(a[0], a[1], a[2], a[3]), base(0, 0, 0, 0),
            from(0, 2), from(0, 8), from(0, 3), from(0, 1));
    }

    private static void best() {
        tells("fewest", -1, NONE, (x, a) -> x.fewest(a[0]), base(0), from(0, 1));
        tells("bestForm", -1, NONE, (x, a) -> x.bestForm(a[0], a[1]), base(0, 0), from(0, 1), from(0, 1));
        tells("bestHabit", -1, NONE, (x, a) -> x.bestHabit(a[0], a[1]), base(0, 0), from(0, 1), from(0, 1));
    }

    private static void rallies() {
        tells("rally", -1, HIT, (x, a) -> x.rally(a[0], a[1]), base(0, 0), from(0, 7), from(0, 1));
        tells("ways", -1, HIT, (x, a) -> x.ways(a[0], a[1]), base(0, 0), from(0, 7), from(0, 3));
        tells("spent", -1, HIT, (x, a) -> x.spent(a[0]), base(0), from(0, 7));
        tells("forged", -1, HIT, (x, a) -> x.forged(a[0]), base(0), from(0, 7));
    }

    private static void whichItWas() {
        tells("whatIs", -1, ZERO, (x, a) -> x.whatIs(a[0], a[1], a[2]), base(0, 0, 0), from(0, 7), from(0, 2), from(0, 1));
        tells("habits", -1, ZERO, (x, a) -> x.habits(a[0]), base(0), from(0, 7));
        tells("two", -1, NONE, (x, a) -> x.two(), base(0));
        tells("draughts", NO_LONG, NONE, (x, a) -> x.draughts(a[0], a[1], a[2]), base(0, 2, 0),
            from(0, 3), from(2, 20), from(0, 1));
        tells("mean", NO_LONG, NONE, (x, a) -> x.mean(a[0]), base(0), from(0, 1));
    }

    private static void toldAndNights() {
        tells("judge", -1, ZERO, (x, a) -> x.judge(a[0]), base(0), from(0, 7));
        tells("nights", -1, NONE, (x, a) -> x.nights(a[0], a[1], a[2]), base(1, 1, 0), from(1, 20), null, from(0, 1));
        tells("count", -1, NONE, (x, a) -> x.count(a[0]), base(0), from(0, 5));
    }

    private static void image() {
        check.changesNothing("restore without an image", -3, EdgeOfRefusalsTest::bare, x -> x.restore());
        check.changesNothing("restore without an image, hits made", -3, () -> Check.of("b00;x00;"), x -> x.restore());
        check.due("image", busy().image(), 3);
        check.due("restore", busy().restore(), 2);
        SideBySide x = new SideBySide();
        check.due("image of 0 HITS", x.image(), 0);
        check.due("restored to 0 HITS", x.restore(), 0);
    }

    private static void shelves() {
        bounds("keep", -1, NONE, (x, a) -> x.keep(a[0], a[1], a[2], a[3]), base(0, 1, 0, 0),
            from(0, 7), from(0, 1), from(0, 7), from(0, 9));
        bounds("keep", -1, NONE, (x, a) -> x.keep(a[0], a[1], a[2], a[3]), base(0, 0, 0, 0),
            from(0, 7), from(0, 1), null, null);
        bounds("row", -1, NONE, (x, a) -> x.row(a[0], a[1], a[2]), base(0, 0, 0), from(0, 7), from(0, 2));
        int[] taken = {0, 100};
        for (int n : taken) {
            check.due("row(0, 0, " + n + ")", busy().row(0, 0, n), 0);
        }
        int[] above = {101, 102, Integer.MAX_VALUE};
        for (int n : above) {
            check.changesNothing("row(0, 0, " + n + ")", -1, EdgeOfRefusalsTest::busy, x -> x.row(0, 0, n));
            check.changesNothing("row(2, 1, " + n + ")", -1, EdgeOfRefusalsTest::busy, x -> x.row(2, 1, n));
        }
        int[] below = {-1, -2, Integer.MIN_VALUE};
        for (int n : below) {
            check.changesNothing("row(0, 0, " + n + ")", -14, EdgeOfRefusalsTest::busy, x -> x.row(0, 0, n));
            check.changesNothing("row(2, 1, " + n + ")", -14, EdgeOfRefusalsTest::busy, x -> x.row(2, 1, n));
        }
        check.changesNothing("-1 ahead of -14, no such SHELF", -1, EdgeOfRefusalsTest::busy, x -> x.row(8, 0, -1));
        check.changesNothing("-1 ahead of -14, no such SHELF", -1, EdgeOfRefusalsTest::busy, x -> x.row(-1, 0, -1));
        check.changesNothing("-1 ahead of -14, no such SORT", -1, EdgeOfRefusalsTest::busy, x -> x.row(0, 3, -1));
        check.changesNothing("-1 ahead of -14, no such SORT", -1, EdgeOfRefusalsTest::busy, x -> x.row(0, -1, -1));
        tells("cost", -1, KIND, (x, a) -> x.cost(a[0]), base(0), from(0, 7));
        tells("toss", -1, KIND, (x, a) -> x.toss(a[0]), base(0), from(0, 7));
        check.changesNothing("toss of one without a FAILURE", -15, EdgeOfRefusalsTest::busy, x -> x.toss(LIFT));
    }

    private static void elements() {
        bounds("put", -1, THREE, (x, a) -> x.put(a[0], a[1], a[2]), base(0, 0, 0), from(0, 7));
        bounds("put", -13, THREE, (x, a) -> x.put(0, a[0], 1), base(0), from(0, 2));
        bounds("put", -1, THREE, (x, a) -> x.put(7, 2, a[0]), base(0), (int[]) null);
        check.changesNothing("put into an empty ROW", -13, EdgeOfRefusalsTest::busy, x -> x.put(EMPTY, 0, 1));
        bounds("copy", -1, THREE, (x, a) -> x.copy(a[0], 0, a[1], 0, 1), base(0, 7), from(0, 7), from(0, 7));
        bounds("copy", -13, THREE, (x, a) -> x.copy(0, a[0], 7, a[1], 1), base(0, 0), from(0, 2), from(0, 2));
        bounds("copy", -13, THREE, (x, a) -> x.copy(0, 0, 7, 0, a[0]), base(0), from(0, 3));
        bounds("copy", -13, THREE, (x, a) -> x.copy(0, 1, 7, 0, a[0]), base(0), from(0, 2));
        bounds("copy", -13, THREE, (x, a) -> x.copy(0, 0, 7, 2, a[0]), base(0), from(0, 1));
        String shelf = IllegalArgumentException.class.getName();
        String place = IllegalStateException.class.getName();
        int[] noShelf = {-1, 8, Integer.MIN_VALUE, Integer.MAX_VALUE};
        for (int d : noShelf) {
            throwing("element of SHELF " + d, shelf, d, 0);
            throwing("element of SHELF " + d + ", no such place either", shelf, d, -1);
        }
        int[] noPlace = {-1, 3, Integer.MIN_VALUE, Integer.MAX_VALUE};
        for (int i : noPlace) {
            throwing("element " + i, place, UNWHOLE, i);
        }
        throwing("element of nothing", place, NOTHING, 0);
        throwing("element of a KIND", place, PUSH, 0);
        throwing("element of an empty ROW", place, EMPTY, 0);
        check.changesNothing("the first element", 5, () -> busyWith(THREE), x -> x.element(0, 0));
        check.changesNothing("the last element", 7, () -> busyWith(THREE), x -> x.element(7, 2));
    }

    private static void throwing(String what, String exception, int d, int i) {
        check.changesNothing(what, 1, EdgeOfRefusalsTest::busy, x -> {
            try {
                x.element(d, i);
            } catch (RuntimeException e) {
                return e.getClass().getName().equals(exception) ? 1 : 2;
            }
            return 0;
        });
    }

    // ---- the first refusal as they are told at the call

    private static void first(String what, long want, Check.Maker maker, Check.Call call) {
        check.changesNothing(what, want, maker, call);
    }

    private static void severalRefusalsOfTexts() {
        Check.Maker busy = EdgeOfRefusalsTest::busy;
        first("court of nothing", -11, busy, x -> x.court(NOTHING));
        first("court of a KIND", -12, busy, x -> x.court(PUSH));
        first("court of shorts", -12, busy, x -> x.court(RALLY));
        first("court of ints", -12, busy, x -> x.court(TEN));
        first("court of an empty row of ints", -12, busy, x -> x.court(EMPTY));
        first("court of other bytes", -1000, busy, x -> x.court(UNWHOLE));
        first("learns of nothing", -11, busy, x -> x.learns(NOTHING));
        first("learns of a ROW", -12, busy, x -> x.learns(EMPTY));
        Check.Maker full = EdgeOfRefusalsTest::full;
        first("learns, no room", -2, full, x -> x.learns(PUSH));
        first("learns, -1 ahead of -2", -1, full, x -> x.learns(8));
        first("learns, -1 ahead of -2", -1, full, x -> x.learns(-1));
        first("learns, -11 ahead of -2", -11, full, x -> x.learns(NOTHING));
        first("learns, -12 ahead of -2", -12, full, x -> x.learns(TEXT));
    }

    private static SideBySide atTheEnd() {
        SideBySide x = Check.of("b09;p211;p311;h10;");
        Check.text(x, 0, "x00;".repeat(11));
        for (int i = 0; i < 9; i++) {
            x.court(0);
        }
        return x;
    }

    private static void severalRefusalsOfHits() {
        Check.Maker end = EdgeOfRefusalsTest::atTheEnd;
        check.due("POINTS", atTheEnd().side(0, 2), 99);
        first("hit, POINTS 99", -3, end, x -> x.hit(0, 0));
        first("hit, POINTS 99", -3, end, x -> x.hit(0, 8));
        first("hit, -1 ahead of -3, STROKE", -1, end, x -> x.hit(1, 0));
        first("hit, -1 ahead of -3, STROKE", -1, end, x -> x.hit(-1, 0));
        first("hit, -1 ahead of -3, CELL", -1, end, x -> x.hit(0, 9));
        first("hit, -1 ahead of -3, CELL", -1, end, x -> x.hit(0, -1));
        first("hit, no STROKES", -1, EdgeOfRefusalsTest::bare, x -> x.hit(0, 0));
    }

    /** -1, -11, -12, -13 in this order, of all calls of a ROW that have them. */
    private static void severalRefusalsOfRows() {
        Check.Maker busy = EdgeOfRefusalsTest::busy;
        for (int d : new int[] {PUSH, NOTHING, UNWHOLE}) {
            first("rally, -1 by what ahead of all, SHELF " + d, -1, busy, x -> x.rally(d, 2));
            first("rally, -1 by what ahead of all, SHELF " + d, -1, busy, x -> x.rally(d, -1));
            first("ways, -1 by the one ahead of all, SHELF " + d, -1, busy, x -> x.ways(d, 4));
            first("ways, -1 by the one ahead of all, SHELF " + d, -1, busy, x -> x.ways(d, -1));
        }
        for (int d : new int[] {PUSH, NOTHING, TEN}) {
            first("whatIs, -1 by the STROKE ahead of all, SHELF " + d, -1, busy, x -> x.whatIs(d, 3, 0));
            first("whatIs, -1 by the STROKE ahead of all, SHELF " + d, -1, busy, x -> x.whatIs(d, -1, 0));
            first("whatIs, -1 by what ahead of all, SHELF " + d, -1, busy, x -> x.whatIs(d, 0, 2));
            first("whatIs, -1 by what ahead of all, SHELF " + d, -1, busy, x -> x.whatIs(d, 0, -1));
        }
        int[] shelves = {NOTHING, PUSH, LIFT};
        int[] due = {-11, -12, -12};
        for (int i = 0; i < shelves.length; i++) {
            int d = shelves[i];
            first("rally of SHELF " + d, due[i], busy, x -> x.rally(d, 0));
            first("rally of SHELF " + d, due[i], busy, x -> x.rally(d, 1));
            first("ways of SHELF " + d, due[i], busy, x -> x.ways(d, 0));
            first("spent of SHELF " + d, due[i], busy, x -> x.spent(d));
            first("whatIs of SHELF " + d, due[i], busy, x -> x.whatIs(d, 0, 0));
            first("whatIs of SHELF " + d, due[i], busy, x -> x.whatIs(d, 0, 1));
            first("habits of SHELF " + d, due[i], busy, x -> x.habits(d));
            first("forged of SHELF " + d, due[i], busy, x -> x.forged(d));
            first("judge of SHELF " + d, due[i], busy, x -> x.judge(d));
            first("put into SHELF " + d, due[i], busy, x -> x.put(d, 0, 1));
            first("put into SHELF " + d + ", no such place either", due[i], busy, x -> x.put(d, -1, 1));
        }
        first("rally of an unwhole ROW", -13, busy, x -> x.rally(UNWHOLE, 0));
        first("rally of an unwhole ROW", -13, busy, x -> x.rally(UNWHOLE, 1));
        first("ways of an unwhole ROW", -13, busy, x -> x.ways(UNWHOLE, 3));
        first("spent of an unwhole ROW", -13, busy, x -> x.spent(UNWHOLE));
        first("forged of an unwhole ROW", -13, busy, x -> x.forged(UNWHOLE));
        first("whatIs of 10 numbers", -13, busy, x -> x.whatIs(TEN, 0, 0));
        first("whatIs of 10 numbers", -13, busy, x -> x.whatIs(TEN, 2, 1));
        first("habits of 10 numbers", -13, busy, x -> x.habits(TEN));
        first("judge of 10 numbers", 0, () -> withPoints(), x -> x.judge(TEN));
        first("cost of nothing", -11, busy, x -> x.cost(NOTHING));
        first("cost of a ROW", -12, busy, x -> x.cost(EMPTY));
        first("toss of nothing", -11, busy, x -> x.toss(NOTHING));
        first("toss of a ROW", -12, busy, x -> x.toss(TEN));
    }

    /** Side 0 has POINTS already, so a ROW that begins with 0 is not so at once. */
    private static SideBySide withPoints() {
        SideBySide x = Check.of("b00;p211;p311;h10;x00;");
        Check.row(x, TEN, Check.INTS, 0, 1, 2, 3, 4, 5, 6, 7, 8, 9);
        return x;
    }

    private static void severalRefusalsWithoutStrokes() {
        Check.Maker bare = EdgeOfRefusalsTest::bare;
        for (int what = 0; what < 2; what++) {
            int w = what;
            first("fewest, no STROKES", -3, bare, x -> x.fewest(w));
            first("bestForm, no STROKES", -3, bare, x -> x.bestForm(1 - w, w));
            first("bestHabit, no STROKES", -3, bare, x -> x.bestHabit(1 - w, w));
            first("nights, no STROKES", -3, bare, x -> x.nights(1 + 19 * w, 5, w));
        }
        first("two, no STROKES", -3, bare, x -> x.two());
        first("forced, no STROKES", -4, bare, x -> x.forced());
        for (int v : new int[] {-1, 2}) {
            first("fewest, -1 ahead of -3", -1, bare, x -> x.fewest(v));
            first("bestForm, -1 ahead of -3", -1, bare, x -> x.bestForm(0, v));
            first("bestForm, -1 ahead of -3", -1, bare, x -> x.bestForm(v, 0));
            first("bestHabit, -1 ahead of -3", -1, bare, x -> x.bestHabit(0, v));
            first("bestHabit, -1 ahead of -3", -1, bare, x -> x.bestHabit(v, 0));
            first("nights, -1 ahead of -3", -1, bare, x -> x.nights(1, 1, v));
        }
        first("nights, -1 ahead of -3", -1, bare, x -> x.nights(0, 1, 0));
        first("nights, -1 ahead of -3", -1, bare, x -> x.nights(21, 1, 0));
        first("habits, no STROKES", -3, bare, x -> x.habits(UNWHOLE));
        first("habits, -1 ahead of -3", -1, bare, x -> x.habits(8));
        first("habits, -1 ahead of -3", -1, bare, x -> x.habits(-1));
        first("habits, -11 ahead of -3", -11, bare, x -> x.habits(NOTHING));
        first("habits, -12 ahead of -3", -12, bare, x -> x.habits(PUSH));
        first("habits, -13 ahead of -3", -13, bare, x -> x.habits(TEN));
        first("judge, no STROKES", -3, bare, x -> x.judge(TEN));
        first("judge, no STROKES, no numbers", -3, bare, x -> x.judge(EMPTY));
        first("judge, -1 ahead of -3", -1, bare, x -> x.judge(8));
        first("judge, -1 ahead of -3", -1, bare, x -> x.judge(-1));
        first("judge, -11 ahead of -3", -11, bare, x -> x.judge(NOTHING));
        first("judge, -12 ahead of -3", -12, bare, x -> x.judge(PUSH));
        first("whatIs, no STROKES", -1, bare, x -> x.whatIs(UNWHOLE, 0, 0));
        first("rally, no STROKES", -13, bare, x -> x.rally(RALLY, 0));
        first("spent, no STROKES", -13, bare, x -> x.spent(RALLY));
        first("ways, no STROKES", -13, bare, x -> x.ways(RALLY, 0));
        first("forged, no STROKES", 0, bare, x -> x.forged(RALLY));
        first("rally of no HITS, no STROKES", 0, bare, x -> x.rally(EMPTY, 0));
        first("forged, no HITS, no STROKES", -4, bare, x -> x.forged(EMPTY));
        first("stroke, no STROKES", -1, bare, x -> x.stroke(0, 0));
        first("open, no STROKES", -1, bare, x -> x.open(0));
        first("farthest, no STROKES", -1, bare, x -> x.farthest(0, 0));
        first("atWhom, no STROKES", -1, bare, x -> x.atWhom(0));
        first("whose, no STROKES", -1, bare, x -> x.whose(0, 0));
        first("wins, no STROKES", -1, bare, x -> x.wins(0, 0));
        first("falls, no STROKES", -1, bare, x -> x.falls(0, 0));
        first("change, no STROKES", -1, bare, x -> x.change(0, 0, 0, 0));
    }

    private static void severalRefusalsOfCopy() {
        Check.Maker busy = EdgeOfRefusalsTest::busy;
        for (int no : new int[] {-1, 8}) {
            first("copy, -1 ahead of -11", -1, busy, x -> x.copy(no, 0, NOTHING, 0, 1));
            first("copy, -1 ahead of -11", -1, busy, x -> x.copy(NOTHING, 0, no, 0, 1));
            first("copy, -1 ahead of -12", -1, busy, x -> x.copy(PUSH, 0, no, 0, 1));
            first("copy, -1 ahead of -13", -1, busy, x -> x.copy(RALLY, -1, no, 0, 1));
        }
        first("copy, -11 of the first", -11, busy, x -> x.copy(NOTHING, 0, RALLY, 0, 1));
        first("copy, -11 of the second", -11, busy, x -> x.copy(RALLY, 0, NOTHING, 0, 1));
        first("copy, -11 of the second ahead of -12", -11, busy, x -> x.copy(PUSH, 0, NOTHING, 0, 1));
        first("copy, -11 of the first ahead of -12", -11, busy, x -> x.copy(NOTHING, 0, PUSH, 0, 1));
        first("copy, -11 ahead of -13", -11, busy, x -> x.copy(RALLY, -1, NOTHING, 0, 1));
        first("copy, -12 of the first", -12, busy, x -> x.copy(PUSH, 0, RALLY, 0, 1));
        first("copy, -12 of the second", -12, busy, x -> x.copy(RALLY, 0, PUSH, 0, 1));
        first("copy, -12 of both", -12, busy, x -> x.copy(PUSH, 0, LIFT, 0, 0));
        first("copy, bytes to shorts", -12, busy, x -> x.copy(UNWHOLE, 0, RALLY, 0, 1));
        first("copy, shorts to ints", -12, busy, x -> x.copy(RALLY, 0, TEN, 0, 1));
        first("copy, ints to bytes", -12, busy, x -> x.copy(TEN, 0, UNWHOLE, 0, 1));
        first("copy, -12 ahead of -13, n below 0", -12, busy, x -> x.copy(TEN, 0, UNWHOLE, 0, -1));
        first("copy, -12 ahead of -13, places", -12, busy, x -> x.copy(PUSH, -1, RALLY, 9, 1));
        first("copy, n below 0", -13, busy, x -> x.copy(TEN, 3, TEN, 3, -1));
        first("copy, one out of an empty ROW", -13, busy, x -> x.copy(EMPTY, 0, TEN, 0, 1));
        first("copy, one into an empty ROW", -13, busy, x -> x.copy(TEN, 0, EMPTY, 0, 1));
        first("copy, none out of an empty ROW", 0, busy, x -> x.copy(EMPTY, 0, TEN, 0, 0));
        first("copy, none behind the end", -13, busy, x -> x.copy(TEN, 11, EMPTY, 0, 0));
        first("copy, none to behind the end", -13, busy, x -> x.copy(EMPTY, 0, TEN, 11, 0));
        first("copy, ten of ten onto themselves", 10, busy, x -> x.copy(TEN, 0, TEN, 0, 10));
        first("copy, eleven of ten", -13, busy, x -> x.copy(TEN, 0, TEN, 0, 11));
    }

    /** 1000000000 less -1, whichever argument is refused, and the least and most numbers too. */
    private static void longsAreToldLikewise() {
        Check.Maker busy = EdgeOfRefusalsTest::busy;
        first("mean(2)", 1000000001L, busy, x -> x.mean(2));
        first("mean(-1)", 1000000001L, busy, x -> x.mean(-1));
        first("draughts of 4 of 3 STROKES", 1000000001L, busy, x -> x.draughts(4, 2, 0));
        first("draughts of 3 of 3 STROKES is not refused", 1, () -> Check.of("b30;b30;b30;"), x -> x.draughts(3, 20, 1));
        Check.Maker full = EdgeOfRefusalsTest::full;
        first("draughts of 6 of 8 STROKES", 1000000001L, full, x -> x.draughts(6, 2, 1));
        check.dueTrue("draughts of 5 of 8 STROKES is not refused", !isRefusal(full().draughts(5, 20, 1)));
        first("draughts with 1 in 1", 1000000001L, full, x -> x.draughts(5, 1, 1));
        first("draughts with 1 in 21", 1000000001L, full, x -> x.draughts(5, 21, 1));
        first("draughts of none of no STROKES", 1, EdgeOfRefusalsTest::bare, x -> x.draughts(0, 20, 1));
        first("draughts of one of no STROKES", 1000000001L, EdgeOfRefusalsTest::bare, x -> x.draughts(1, 20, 1));
    }
}
