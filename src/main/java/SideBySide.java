/** Two against two with a feathered thing: what each call answers is promised in ../shared/DOC.md. */
public final class SideBySide {
    private static final int NO_SUCH = -1;
    private static final int NO_ROOM = -2;
    private static final int NOT_SO = -3;
    private static final int NONE = -4;
    private static final int NOTHING_HELD = -11;
    private static final int OTHER_KIND = -12;
    private static final int NO_PLACE = -13;
    private static final int SIZE_BELOW_ZERO = -14;
    private static final int NO_FAILURE = -15;
    private static final int FINE = 0;
    private static final long REFUSED_LONG = 1000000000L - NO_SUCH;

    private static final int CELLS = 9;
    private static final int MIDDLE = 4;
    private static final int LAST_CELL = 8;
    private static final int PLAYERS = 4;
    private static final int SIDES = 2;
    private static final int SHELVES = 8;
    private static final int KINDS = 8;
    private static final int FIGURES = 10;
    private static final int ROW_ROOM = 100;
    private static final int NOBODY = 9;
    private static final int NO_SIDE = 2;
    private static final int FORM = 0;
    private static final int HABIT = 1;
    private static final int FORMS = 2;

    private final Court now = new Court();
    // What calls try out happens on this one court, made once: no call makes objects by the hit.
    private final Court mind = new Court();
    private final Court pictured = new Court();
    private boolean hasPicture;
    private final Shelf[] shelves = new Shelf[SHELVES];
    private final Stroke[] samples = new Stroke[KINDS];
    private final int[] stood = new int[PLAYERS];
    private final int[] gone = new int[PLAYERS];
    private int seed;

    public SideBySide() {
        for (int d = 0; d < SHELVES; d++) {
            shelves[d] = new Shelf();
        }
        for (int k = 0; k < KINDS; k++) {
            samples[k] = Stroke.of(k, 0);
        }
    }

    // ---- the court as told

    public int court(int d) {
        int refusal = refusalOf(d, true);
        if (refusal != FINE) {
            return refusal;
        }
        Shelf text = shelves[d];
        if (text.sort != Shelf.BYTES) {
            return OTHER_KIND;
        }
        int place = CourtText.wrongByte(text);
        if (place >= 0) {
            return -1000 - place;
        }
        // The statements come to a court in mind first: with a fault nothing may have come.
        mind.become(now);
        place = CourtText.wrongStatement(text, mind);
        if (place >= 0) {
            return -2000 - place;
        }
        now.become(mind);
        return CourtText.statements(text);
    }

    public int stroke(int s, int what) {
        if (!now.knows(s)) {
            return NO_SUCH;
        }
        Stroke one = now.strokes[s];
        switch (what) {
            case 0:
                return one.kind();
            case 1:
                return one.figure;
            case 2:
                return one.effort();
            case 3:
                return one.timeTo(0);
            case 4:
                return one.timeTo(LAST_CELL);
            default:
                return NO_SUCH;
        }
    }

    public int player(int p, int what) {
        if (!isBelow(p, PLAYERS)) {
            return NO_SUCH;
        }
        switch (what) {
            case 0:
                return now.at[p];
            case 1:
                return now.pace[p];
            case 2:
                return now.tired[p];
            case 3:
                return now.left[p];
            case 4:
                return now.stepsIn(1, p, now.tired[p]);
            default:
                return NO_SUCH;
        }
    }

    public int side(int s, int what) {
        if (!isBelow(s, SIDES)) {
            return NO_SUCH;
        }
        switch (what) {
            case 0:
                return now.form[s];
            case 1:
                return now.habit[s];
            case 2:
                return now.points[s];
            case 3:
                return now.outOfPlace(s);
            default:
                return NO_SUCH;
        }
    }

    public int learns(int d) {
        int refusal = refusalOf(d, false);
        return refusal != FINE ? refusal : now.learn(shelves[d].held);
    }

    public int stands(int p, int cell, int pace) {
        return now.standAt(p, cell, pace);
    }

    public int tires(int p, int v) {
        return now.setTired(p, v);
    }

    public int hands(int p) {
        return now.switchHand(p);
    }

    public int forms(int s, int what, int v) {
        return now.adopt(s, what, v);
    }

    public int blows(int v) {
        return now.setDraught(v);
    }

    public int hit(int stroke, int cell) {
        int refusal = now.hitRefusal(stroke, cell);
        if (refusal != FINE) {
            return refusal;
        }
        now.strike(stroke, cell);
        return now.has;
    }

    // ---- whose it is

    public int whose(int stroke, int cell) {
        return now.isHit(stroke, cell) ? now.takerOf(now.landing(stroke, cell)) : NO_SUCH;
    }

    public int wins(int stroke, int cell) {
        if (!now.isHit(stroke, cell)) {
            return NO_SUCH;
        }
        return now.scores(stroke, cell) ? 1 : 0;
    }

    public int falls(int stroke, int cell) {
        return now.isHit(stroke, cell) ? now.landing(stroke, cell) : NO_SUCH;
    }

    public int open(int stroke) {
        if (!now.knows(stroke)) {
            return NO_SUCH;
        }
        int bits = 0;
        for (int cell = 0; cell < CELLS; cell++) {
            if (now.scores(stroke, cell)) {
                bits |= 1 << cell;
            }
        }
        return bits;
    }

    public int forced() {
        return now.firstScoring();
    }

    public int farthest(int stroke, int what) {
        if (!now.knows(stroke) || !isBelow(what, 2)) {
            return NO_SUCH;
        }
        int best = 0;
        int longest = -1;
        for (int cell = 0; cell < CELLS; cell++) {
            int led = now.wayLed(now.landing(stroke, cell));
            if (led > longest) {
                longest = led;
                best = cell;
            }
        }
        return what == 0 ? best : longest;
    }

    public int atWhom(int stroke) {
        if (!now.knows(stroke)) {
            return NO_SUCH;
        }
        int best = NONE;
        int most = -1;
        for (int cell = 0; cell < CELLS; cell++) {
            mind.become(now);
            boolean point = mind.strike(stroke, cell);
            int worn = mind.tired[mind.has];
            if (!point && worn > most) {
                most = worn;
                best = cell;
            }
        }
        return best;
    }

    public int fewest(int what) {
        if (!isBelow(what, 2)) {
            return NO_SUCH;
        }
        if (now.known == 0) {
            return NOT_SO;
        }
        int atOnce = now.firstScoring();
        if (atOnce != NONE) {
            return what == 0 ? 1 : atOnce;
        }
        // The second hit is the other side's, so a point of one's own comes by the third or not at all.
        int opening = firstOpening();
        if (opening == NONE) {
            return NONE;
        }
        return what == 0 ? 3 : opening;
    }

    public int bestForm(int s, int what) {
        return bestTrait(s, FORM, what);
    }

    public int bestHabit(int s, int what) {
        return bestTrait(s, HABIT, what);
    }

    public int change(int stroke, int cell, int p, int what) {
        if (!now.isHit(stroke, cell) || !isBelow(p, PLAYERS) || !isBelow(what, 2)) {
            return NO_SUCH;
        }
        mind.become(now);
        mind.strike(stroke, cell);
        return what == 0 ? mind.at[p] : mind.tired[p];
    }

    // ---- rallies

    public int rally(int d, int what) {
        if (!isBelow(what, 2)) {
            return NO_SUCH;
        }
        int refusal = refusalOfRally(d);
        if (refusal != FINE) {
            return refusal;
        }
        int played = playRally(shelves[d]);
        return what == 0 ? played : sideWithMorePoints();
    }

    public int ways(int d, int p) {
        if (!isBelow(p, PLAYERS)) {
            return NO_SUCH;
        }
        int refusal = refusalOfRally(d);
        if (refusal != FINE) {
            return refusal;
        }
        playRally(shelves[d]);
        return gone[p];
    }

    public int spent(int d) {
        int refusal = refusalOfRally(d);
        if (refusal != FINE) {
            return refusal;
        }
        playRally(shelves[d]);
        int most = 0;
        for (int p = 1; p < PLAYERS; p++) {
            if (mind.tired[p] > mind.tired[most]) {
                most = p;
            }
        }
        return most;
    }

    // ---- which it was

    public int whatIs(int d, int stroke, int what) {
        if (!now.knows(stroke) || !isBelow(what, 2)) {
            return NO_SUCH;
        }
        int refusal = refusalOfCells(d);
        if (refusal != FINE) {
            return refusal;
        }
        return what == 0 ? kindsThatFell(shelves[d]) : draughtsThatBlew(shelves[d], now.strokes[stroke]);
    }

    public int habits(int d) {
        int refusal = refusalOfCells(d);
        if (refusal != FINE) {
            return refusal;
        }
        if (now.known == 0) {
            return NOT_SO;
        }
        int bits = 0;
        mind.become(now);
        for (int habit = 0; habit < Court.HABITS; habit++) {
            mind.habit[mind.receivers()] = habit;
            if (tellsTakers(shelves[d], mind)) {
                bits |= 1 << habit;
            }
        }
        return bits;
    }

    public int two() {
        if (now.known == 0) {
            return NOT_SO;
        }
        for (int first = 0; first < FORMS; first++) {
            for (int second = 0; second < FORMS; second++) {
                boolean firstStays = outlay(0, first, second) <= outlay(0, 1 - first, second);
                boolean secondStays = outlay(1, first, second) <= outlay(1, first, 1 - second);
                if (firstStays && secondStays) {
                    return 10 * first + second;
                }
            }
        }
        return NONE;
    }

    public long draughts(int n, int t, int part) {
        if (!isBelow(n, 6) || n > now.known || t < 2 || t > 20 || !isBelow(part, 2)) {
            return REFUSED_LONG;
        }
        long above = 0;
        for (int blown = 0; blown < 1 << n; blown++) {
            if (staysInPlay(n, blown)) {
                above += power(t - 1, n - Integer.bitCount(blown));
            }
        }
        return inLeastTerms(above, power(t, n), part);
    }

    public long mean(int part) {
        return isBelow(part, 2) ? inLeastTerms(now.allTired(), PLAYERS, part) : REFUSED_LONG;
    }

    // ---- told rallies, nights by seeds

    public int forged(int d) {
        int refusal = refusalOfHits(d);
        if (refusal != FINE) {
            return refusal;
        }
        Shelf told = shelves[d];
        mind.become(now);
        boolean over = false;
        for (int i = 0; i < told.size / 2; i++) {
            if (over || !now.isHit(told.elements[2 * i], told.elements[2 * i + 1])) {
                return i;
            }
            over = mind.strike(told.elements[2 * i], told.elements[2 * i + 1]);
        }
        return NONE;
    }

    public int judge(int d) {
        int refusal = refusalOf(d, true);
        if (refusal != FINE) {
            return refusal;
        }
        if (now.known == 0) {
            return NOT_SO;
        }
        Shelf told = shelves[d];
        mind.become(now);
        for (int i = 0; i < told.size; i++) {
            if (i > 0) {
                mind.strike(0, endCell(i - 1));
            }
            if (!told.allows(i, mind.points[0] + mind.points[1])) {
                return i;
            }
        }
        return NONE;
    }

    public int nights(int n, int z, int what) {
        if (n < 1 || n > 20 || !isBelow(what, 2)) {
            return NO_SUCH;
        }
        if (now.known == 0) {
            return NOT_SO;
        }
        seed = z;
        int more = 0;
        for (int night = 0; night < n; night++) {
            mind.become(now);
            for (int i = 0; i < 12; i++) {
                int stroke = draw(now.known);
                mind.strike(stroke, draw(CELLS));
            }
            more += mind.points[what] - now.points[what];
        }
        return more;
    }

    // ---- the image, what is told

    public int image() {
        pictured.become(now);
        hasPicture = true;
        return now.hits;
    }

    public int restore() {
        if (!hasPicture) {
            return NOT_SO;
        }
        now.become(pictured);
        return now.hits;
    }

    public int count(int what) {
        switch (what) {
            case 0:
                return now.known;
            case 1:
                return now.hits;
            case 2:
                return now.has;
            case 3:
                return now.draught + 1;
            case 4:
                return now.allTired();
            case 5:
                return now.leftOnes();
            default:
                return NO_SUCH;
        }
    }

    // ---- shelves

    public int keep(int d, int what, int k, int figure) {
        if (!isBelow(d, SHELVES) || !isBelow(what, 2)) {
            return NO_SUCH;
        }
        if (what == 0) {
            shelves[d].clear();
            return FINE;
        }
        if (!isBelow(k, KINDS) || !isBelow(figure, FIGURES)) {
            return NO_SUCH;
        }
        shelves[d].hold(Stroke.of(k, figure));
        return FINE;
    }

    public int row(int d, int sort, int n) {
        if (!isBelow(d, SHELVES) || !isBelow(sort, Shelf.SORTS) || n > ROW_ROOM) {
            return NO_SUCH;
        }
        if (n < 0) {
            return SIZE_BELOW_ZERO;
        }
        shelves[d].lay(sort, n);
        return FINE;
    }

    public int put(int d, int i, int v) {
        int refusal = refusalOf(d, true);
        if (refusal != FINE) {
            return refusal;
        }
        Shelf there = shelves[d];
        if (!isBelow(i, there.size)) {
            return NO_PLACE;
        }
        there.elements[i] = there.fitted(v);
        return FINE;
    }

    public long element(int d, int i) throws IllegalArgumentException, IllegalStateException {
        if (!isBelow(d, SHELVES)) {
            throw new IllegalArgumentException("no such shelf");
        }
        Shelf there = shelves[d];
        if (!there.isRow() || !isBelow(i, there.size)) {
            throw new IllegalStateException("no row, or no such place");
        }
        return there.elements[i];
    }

    public int copy(int d, int i, int e, int j, int n) {
        if (!isBelow(d, SHELVES) || !isBelow(e, SHELVES)) {
            return NO_SUCH;
        }
        Shelf from = shelves[d];
        Shelf to = shelves[e];
        if (from.isBare() || to.isBare()) {
            return NOTHING_HELD;
        }
        if (!from.isRow() || from.sort != to.sort) {
            return OTHER_KIND;
        }
        if (!from.spans(i, n) || !to.spans(j, n)) {
            return NO_PLACE;
        }
        System.arraycopy(from.elements, i, to.elements, j, n);
        return n;
    }

    public int cost(int d) {
        int refusal = refusalOf(d, false);
        return refusal != FINE ? refusal : shelves[d].held.price();
    }

    public int toss(int d) {
        int refusal = refusalOf(d, false);
        if (refusal != FINE) {
            return refusal;
        }
        Stroke one = shelves[d].held;
        try {
            one.fail();
        } catch (UnsupportedOperationException push) {
            return 200 + one.price();
        } catch (IllegalArgumentException drop) {
            return 100 + one.figure;
        } catch (IllegalStateException other) {
            return one.figure;
        }
        return NO_FAILURE;
    }

    // ---- what the calls share

    private static boolean isBelow(int v, int bound) {
        return v >= 0 && v < bound;
    }

    private static int way(int a, int b) {
        return Math.abs(a / 3 - b / 3) + Math.abs(a % 3 - b % 3);
    }

    /** The cell of the i-th hit of those that go to one end and the other by turns. */
    private static int endCell(int i) {
        return i % 2 == 0 ? 0 : LAST_CELL;
    }

    private int refusalOf(int d, boolean rowWanted) {
        if (!isBelow(d, SHELVES)) {
            return NO_SUCH;
        }
        if (shelves[d].isBare()) {
            return NOTHING_HELD;
        }
        return shelves[d].isRow() == rowWanted ? FINE : OTHER_KIND;
    }

    private int refusalOfHits(int d) {
        int refusal = refusalOf(d, true);
        if (refusal != FINE) {
            return refusal;
        }
        return shelves[d].size % 2 == 0 ? FINE : NO_PLACE;
    }

    private int refusalOfRally(int d) {
        int refusal = refusalOfHits(d);
        if (refusal != FINE) {
            return refusal;
        }
        Shelf told = shelves[d];
        for (int i = 0; i + 1 < told.size; i += 2) {
            if (!now.isHit(told.elements[i], told.elements[i + 1])) {
                return NO_PLACE;
            }
        }
        return FINE;
    }

    private int refusalOfCells(int d) {
        int refusal = refusalOf(d, true);
        if (refusal != FINE) {
            return refusal;
        }
        return shelves[d].size > CELLS ? NO_PLACE : FINE;
    }

    /** Goes through a rally in mind till a point: how many hits went by; gone tells the ways. */
    private int playRally(Shelf told) {
        mind.become(now);
        for (int p = 0; p < PLAYERS; p++) {
            gone[p] = 0;
        }
        for (int i = 0; i + 1 < told.size; i += 2) {
            System.arraycopy(mind.at, 0, stood, 0, PLAYERS);
            if (mind.strike(told.elements[i], told.elements[i + 1])) {
                return i / 2 + 1;
            }
            addWaysGone();
        }
        return told.size / 2;
    }

    /** Nobody goes a detour, so what one went in a hit is the way between his two places. */
    private void addWaysGone() {
        for (int p = 0; p < PLAYERS; p++) {
            gone[p] += way(stood[p], mind.at[p]);
        }
    }

    private int sideWithMorePoints() {
        for (int s = 0; s < SIDES; s++) {
            if (mind.points[s] > now.points[s]) {
                return s;
            }
        }
        return NO_SIDE;
    }

    private int firstOpening() {
        for (int stroke = 0; stroke < now.known; stroke++) {
            for (int cell = 0; cell < CELLS; cell++) {
                mind.become(now);
                boolean over = mind.strike(stroke, cell) || mind.strike(0, MIDDLE);
                if (!over && mind.firstScoring() != NONE) {
                    return 10 * stroke + cell;
                }
            }
        }
        return NONE;
    }

    private int bestTrait(int s, int trait, int what) {
        if (!isBelow(s, SIDES) || !isBelow(what, 2)) {
            return NO_SUCH;
        }
        if (now.known == 0) {
            return NOT_SO;
        }
        int best = 0;
        int most = -1;
        for (int v = 0; v < Court.choices(trait); v++) {
            int held = cellsHeld(s, trait, v);
            if (held > most) {
                most = held;
                best = v;
            }
        }
        return what == 0 ? best : most;
    }

    private int cellsHeld(int s, int trait, int v) {
        int held = 0;
        for (int cell = 0; cell < CELLS; cell++) {
            mind.become(now);
            mind.adopt(s, trait, v);
            mind.giveTo(1 - s);
            if (!isBroken(cell)) {
                held++;
            }
        }
        return held;
    }

    /** Whether the side that has it in mind makes a point by its first or its second hit. */
    private boolean isBroken(int cell) {
        if (mind.strike(0, cell)) {
            return true;
        }
        if (mind.strike(0, MIDDLE)) {
            return false;
        }
        return mind.strike(0, LAST_CELL - cell);
    }

    private int kindsThatFell(Shelf told) {
        int bits = 0;
        for (int k = 0; k < KINDS; k++) {
            if (tellsFalls(told, samples[k], now.draught)) {
                bits |= 1 << k;
            }
        }
        return bits;
    }

    private static int draughtsThatBlew(Shelf told, Stroke one) {
        int bits = 0;
        for (int draught = -1; draught <= 1; draught++) {
            if (tellsFalls(told, one, draught)) {
                bits |= 1 << (draught + 1);
            }
        }
        return bits;
    }

    private static boolean tellsFalls(Shelf told, Stroke one, int draught) {
        for (int cell = 0; cell < told.size; cell++) {
            if (!told.allows(cell, one.landing(cell, draught))) {
                return false;
            }
        }
        return true;
    }

    private static boolean tellsTakers(Shelf told, Court court) {
        for (int cell = 0; cell < told.size; cell++) {
            if (!told.allows(cell, court.takerOf(court.landing(0, cell)))) {
                return false;
            }
        }
        return true;
    }

    /** What a side would have less of, with these forms of both. */
    private int outlay(int s, int first, int second) {
        mind.become(now);
        mind.form[0] = first;
        mind.form[1] = second;
        boolean over = false;
        for (int i = 0; i < 6 && !over; i++) {
            over = mind.strike(0, endCell(i));
        }
        int point = mind.points[s] - now.points[s];
        return mind.tired[2 * s] + mind.tired[2 * s + 1] - 9 * point;
    }

    /** Whether n hits make no point, the draught blowing at those in the bits. */
    private boolean staysInPlay(int n, int blown) {
        mind.become(now);
        for (int i = 0; i < n; i++) {
            mind.draught = (blown >> i & 1) == 1 ? 1 : now.draught;
            if (mind.strike(i, 2)) {
                return false;
            }
        }
        return true;
    }

    private static long power(int base, int times) {
        long product = 1;
        for (int i = 0; i < times; i++) {
            product *= base;
        }
        return product;
    }

    private static long inLeastTerms(long above, long below, int part) {
        long common = commonDivisor(above, below);
        return part == 0 ? above / common : below / common;
    }

    private static long commonDivisor(long above, long below) {
        long less = above;
        long more = below;
        // Euclid's steps for such small numbers are far fewer than 64.
        for (int i = 0; i < 64 && less != 0; i++) {
            long rest = more % less;
            more = less;
            less = rest;
        }
        return Math.max(more, 1);
    }

    private int draw(int bound) {
        seed = seed * 1103515245 + 12345;
        return (seed & 0x7fffffff) / 65536 % bound;
    }

    /** All that an image holds; indices are looked at by those who call, unless a method refuses. */
    private static final class Court {
        static final int HABITS = 4;
        static final int MOST_STROKES = 8;
        static final int MOST_HITS = 999;
        static final int MOST_POINTS = 99;
        static final int MOST_TIRED = 99;
        // Neither one of the four nor nobody.
        static final int BOTH = 8;
        static final int BOTH_TIRE = 3;

        final int[] at = {1, 7, 1, 7};
        final int[] pace = {1, 1, 1, 1};
        final int[] tired = new int[PLAYERS];
        final int[] left = new int[PLAYERS];
        final int[] form = new int[SIDES];
        final int[] habit = {1, 1};
        final int[] points = new int[SIDES];
        final Stroke[] strokes = new Stroke[MOST_STROKES];
        int known;
        int has;
        int draught;
        int hits;

        void become(Court other) {
            System.arraycopy(other.at, 0, at, 0, PLAYERS);
            System.arraycopy(other.pace, 0, pace, 0, PLAYERS);
            System.arraycopy(other.tired, 0, tired, 0, PLAYERS);
            System.arraycopy(other.left, 0, left, 0, PLAYERS);
            System.arraycopy(other.form, 0, form, 0, SIDES);
            System.arraycopy(other.habit, 0, habit, 0, SIDES);
            System.arraycopy(other.points, 0, points, 0, SIDES);
            known = other.known;
            for (int i = 0; i < known; i++) {
                strokes[i] = other.strokes[i];
            }
            has = other.has;
            draught = other.draught;
            hits = other.hits;
        }

        boolean knows(int stroke) {
            return isBelow(stroke, known);
        }

        boolean isHit(int stroke, int cell) {
            return knows(stroke) && isBelow(cell, CELLS);
        }

        int hitRefusal(int stroke, int cell) {
            if (!isHit(stroke, cell)) {
                return NO_SUCH;
            }
            boolean full = hits >= MOST_HITS || points[0] >= MOST_POINTS || points[1] >= MOST_POINTS;
            return full ? NOT_SO : FINE;
        }

        int learn(Stroke one) {
            if (known >= MOST_STROKES) {
                return NO_ROOM;
            }
            strokes[known] = one;
            known++;
            return known - 1;
        }

        int standAt(int p, int cell, int newPace) {
            if (!isBelow(p, PLAYERS) || !isBelow(cell, CELLS) || newPace < 1 || newPace > 4) {
                return NO_SUCH;
            }
            int was = at[p];
            at[p] = cell;
            pace[p] = newPace;
            return was;
        }

        int setTired(int p, int v) {
            if (!isBelow(p, PLAYERS) || !isBelow(v, MOST_TIRED + 1)) {
                return NO_SUCH;
            }
            int was = tired[p];
            tired[p] = v;
            return was;
        }

        int switchHand(int p) {
            if (!isBelow(p, PLAYERS)) {
                return NO_SUCH;
            }
            left[p] = 1 - left[p];
            return left[p];
        }

        static int choices(int trait) {
            return trait == FORM ? FORMS : HABITS;
        }

        int adopt(int s, int trait, int v) {
            if (!isBelow(s, SIDES) || !isBelow(trait, 2) || !isBelow(v, choices(trait))) {
                return NO_SUCH;
            }
            int[] those = trait == FORM ? form : habit;
            int was = those[s];
            those[s] = v;
            return was;
        }

        int setDraught(int v) {
            if (!isBelow(v, 3)) {
                return NO_SUCH;
            }
            int was = draught + 1;
            draught = v - 1;
            return was;
        }

        void giveTo(int s) {
            if (has / 2 != s) {
                has = 2 * s;
            }
        }

        int receivers() {
            return 1 - has / 2;
        }

        int landing(int stroke, int cell) {
            return strokes[stroke].landing(cell, draught);
        }

        int stepsIn(int time, int p, int worn) {
            return time * Math.max(1, pace[p] - worn / 30);
        }

        /** Whose a stroke is that falls there: a player's, nobody's, both's. */
        int claimTo(int fall) {
            int lesser = 2 * receivers();
            int greater = lesser + 1;
            int lead = way(at[greater], fall) - way(at[lesser], fall);
            if (lead != 0) {
                return lead > 0 ? lesser : greater;
            }
            switch (habit[receivers()]) {
                case 0:
                    return NOBODY;
                case 1:
                    return lesser;
                case 2:
                    return BOTH;
                default:
                    return leftOneOf(lesser, greater);
            }
        }

        int takerBy(int claim) {
            return claim == BOTH ? 2 * receivers() : claim;
        }

        int takerOf(int fall) {
            return takerBy(claimTo(fall));
        }

        int leftOneOf(int lesser, int greater) {
            if (left[lesser] == left[greater]) {
                return NOBODY;
            }
            return left[lesser] == 1 ? lesser : greater;
        }

        int wayLed(int fall) {
            int taker = takerOf(fall);
            return taker == NOBODY ? 99 : way(at[taker], fall);
        }

        boolean scores(int stroke, int cell) {
            int fall = landing(stroke, cell);
            return isMissed(claimTo(fall), fall, strokes[stroke].timeTo(fall));
        }

        /** Changes nothing: what both's would tire him by is only reckoned in. */
        boolean isMissed(int claim, int fall, int time) {
            if (claim == NOBODY) {
                return true;
            }
            int taker = takerBy(claim);
            int worn = claim == BOTH ? Math.min(MOST_TIRED, tired[taker] + BOTH_TIRE) : tired[taker];
            return way(at[taker], fall) > stepsIn(time, taker, worn);
        }

        /** The first stroke and cell that make a point, 10 the one and the other. */
        int firstScoring() {
            for (int stroke = 0; stroke < known; stroke++) {
                for (int cell = 0; cell < CELLS; cell++) {
                    if (scores(stroke, cell)) {
                        return 10 * stroke + cell;
                    }
                }
            }
            return NONE;
        }

        /** A hit, without a look at what hits or points there were: whether it makes a point. */
        boolean strike(int stroke, int cell) {
            Stroke one = strokes[stroke];
            int fall = one.landing(cell, draught);
            int time = one.timeTo(fall);
            int claim = claimTo(fall);
            boolean point = isMissed(claim, fall, time);
            int taker = takerBy(claim);
            hits++;
            weary(has, one.effort());
            if (claim == BOTH) {
                weary(taker, BOTH_TIRE);
                weary(partnerOf(taker), BOTH_TIRE);
            }
            if (point) {
                points[has / 2]++;
                has = has / 2 * 2;
            } else {
                take(taker, fall);
                sendPartner(taker, time);
            }
            return point;
        }

        void take(int taker, int fall) {
            weary(taker, way(at[taker], fall));
            at[taker] = fall;
            has = taker;
        }

        /** Columns first: only what steps they leave go into rows. */
        void sendPartner(int taker, int time) {
            int partner = partnerOf(taker);
            int from = at[partner];
            int to = placeBy(taker);
            int steps = stepsIn(time, partner, tired[partner]);
            int column = nearer(from % 3, to % 3, steps);
            int rest = steps - Math.abs(column - from % 3);
            at[partner] = 3 * nearer(from / 3, to / 3, rest) + column;
        }

        void weary(int p, int more) {
            tired[p] = Math.min(MOST_TIRED, tired[p] + more);
        }

        static int partnerOf(int p) {
            return p ^ 1;
        }

        /** The place of one's partner, by the form of their side. */
        int placeBy(int p) {
            return form[p / 2] == 0 ? 3 + (2 - at[p] % 3) : 3 * (2 - at[p] / 3) + 1;
        }

        int outOfPlace(int s) {
            int leader = has / 2 == s ? has : 2 * s;
            return way(at[partnerOf(leader)], placeBy(leader));
        }

        static int nearer(int from, int to, int steps) {
            return to > from ? Math.min(to, from + steps) : Math.max(to, from - steps);
        }

        int allTired() {
            return tired[0] + tired[1] + tired[2] + tired[3];
        }

        int leftOnes() {
            return left[0] | left[1] << 1 | left[2] << 2 | left[3] << 3;
        }
    }

    /** The text of a court in a row of bytes: first its form is looked at, then each statement is tried. */
    private static final class CourtText {
        /** The place of the first byte with which no court can go on; -1 if all of it can. */
        static int wrongByte(Shelf text) {
            int place = 0;
            do {
                int digits = digitsBehind(text.byteAt(place));
                if (digits == 0) {
                    return place;
                }
                for (int i = 1; i <= digits; i++) {
                    if (!isBelow(text.digitAt(place + i), 10)) {
                        return place + i;
                    }
                }
                if (text.byteAt(place + digits + 1) != ';') {
                    return place + digits + 1;
                }
                place += digits + 2;
            } while (place < text.size);
            return -1;
        }

        /** The place of the first statement that can't be done on the court; -1 if all were done. */
        static int wrongStatement(Shelf text, Court court) {
            int place = 0;
            while (place < text.size) {
                if (tell(text, place, court) < 0) {
                    return place;
                }
                place += digitsBehind(text.byteAt(place)) + 2;
            }
            return -1;
        }

        static int statements(Shelf text) {
            int statements = 0;
            for (int i = 0; i < text.size; i++) {
                if (text.byteAt(i) == ';') {
                    statements++;
                }
            }
            return statements;
        }

        static int digitsBehind(int letter) {
            switch (letter) {
                case 'l':
                case 'd':
                    return 1;
                case 'b':
                case 'f':
                case 'h':
                case 'x':
                    return 2;
                case 'p':
                case 't':
                    return 3;
                default:
                    return 0;
            }
        }

        /** Below 0, if the statement there is refused. */
        static int tell(Shelf text, int place, Court court) {
            int first = text.digitAt(place + 1);
            int second = text.digitAt(place + 2);
            int third = text.digitAt(place + 3);
            switch (text.byteAt(place)) {
                case 'b':
                    return isBelow(first, KINDS) ? court.learn(Stroke.of(first, second)) : NO_SUCH;
                case 'p':
                    return court.standAt(first, second, third);
                case 't':
                    return court.setTired(first, 10 * second + third);
                case 'l':
                    return court.switchHand(first);
                case 'f':
                    return court.adopt(first, FORM, second);
                case 'h':
                    return court.adopt(first, HABIT, second);
                case 'd':
                    return court.setDraught(first);
                default:
                    break;
            }
            int refusal = court.hitRefusal(first, second);
            if (refusal == FINE) {
                court.strike(first, second);
            }
            return refusal;
        }
    }

    /** What stands on one shelf: nothing, a stroke, or a row, whose elements are kept as ints that fit. */
    private static final class Shelf {
        static final int BYTES = 0;
        static final int SHORTS = 1;
        static final int SORTS = 3;
        static final int NO_ROW = -1;

        final int[] elements = new int[ROW_ROOM];
        Stroke held;
        int sort = NO_ROW;
        int size;

        boolean isRow() {
            return sort != NO_ROW;
        }

        boolean isBare() {
            return held == null && !isRow();
        }

        void clear() {
            held = null;
            sort = NO_ROW;
        }

        void hold(Stroke one) {
            clear();
            held = one;
        }

        void lay(int newSort, int n) {
            clear();
            sort = newSort;
            size = n;
            for (int i = 0; i < n; i++) {
                elements[i] = 0;
            }
        }

        int fitted(int v) {
            if (sort == BYTES) {
                return (byte) v;
            }
            return sort == SHORTS ? (short) v : v;
        }

        int least() {
            if (sort == BYTES) {
                return -128;
            }
            return sort == SHORTS ? -32768 : -2147483648;
        }

        boolean spans(int i, int n) {
            return n >= 0 && i >= 0 && i <= size - n;
        }

        /** Whether element i says so, or says nothing. */
        boolean allows(int i, int figure) {
            return elements[i] == figure || elements[i] == least();
        }

        /** Behind the end 0, which no text has anywhere. */
        int byteAt(int i) {
            return isBelow(i, size) ? elements[i] : 0;
        }

        int digitAt(int i) {
            return byteAt(i) - '0';
        }
    }

    /** Kind 0, and what the others are under; "n more" is told by the one it is under. */
    private static class Stroke {
        final int figure;

        Stroke(int figure) {
            this.figure = figure;
        }

        static Stroke of(int kind, int figure) {
            switch (kind) {
                case 1:
                    return new Smash(figure);
                case 2:
                    return new Drop(figure);
                case 3:
                    return new Lift(figure);
                case 4:
                    return new Push(figure);
                case 5:
                    return new Flick(figure);
                case 6:
                    return new Between(figure);
                case 7:
                    return new Wander(figure);
                default:
                    return new Stroke(figure);
            }
        }

        int kind() {
            return 0;
        }

        int timeTo(int fall) {
            return 3;
        }

        int effort() {
            return 1;
        }

        int landing(int cell, int draught) {
            return cell;
        }

        int price() {
            return 2;
        }

        /** Throws its failure, if it has one; of which class tells whose it is. */
        void fail() {
            if (figure != 0) {
                throw new IllegalStateException("a stroke fails");
            }
        }
    }

    private static final class Smash extends Stroke {
        Smash(int figure) {
            super(figure);
        }

        @Override
        int kind() {
            return 1;
        }

        @Override
        int timeTo(int fall) {
            return figure >= 5 ? 1 : 2;
        }

        @Override
        int effort() {
            return 5;
        }

        @Override
        int price() {
            return 6;
        }
    }

    private static class Drop extends Stroke {
        Drop(int figure) {
            super(figure);
        }

        @Override
        int kind() {
            return 2;
        }

        @Override
        int timeTo(int fall) {
            return fall / 3 == 0 ? 2 : super.timeTo(fall);
        }

        @Override
        int effort() {
            return super.effort() + figure / 3;
        }

        @Override
        int price() {
            return super.price() + figure;
        }

        @Override
        void fail() {
            if (figure != 0) {
                throw new IllegalArgumentException("a drop fails");
            }
        }
    }

    private static class Lift extends Stroke {
        Lift(int figure) {
            super(figure);
        }

        @Override
        int kind() {
            return 3;
        }

        @Override
        int timeTo(int fall) {
            return super.timeTo(fall) + 3;
        }

        @Override
        int effort() {
            return super.effort() + 1;
        }

        @Override
        int price() {
            return 1;
        }

        @Override
        void fail() {
            // Lifts, and what is under them, have no failure.
        }
    }

    private static final class Push extends Drop {
        Push(int figure) {
            super(figure);
        }

        @Override
        int kind() {
            return 4;
        }

        @Override
        int timeTo(int fall) {
            return super.timeTo(fall) - 1;
        }

        @Override
        int price() {
            return super.price() / 2;
        }

        @Override
        void fail() {
            if (figure != 0) {
                throw new UnsupportedOperationException("a push fails");
            }
        }
    }

    private static final class Flick extends Lift {
        Flick(int figure) {
            super(figure);
        }

        @Override
        int kind() {
            return 5;
        }

        @Override
        int timeTo(int fall) {
            return super.timeTo(fall) / 2;
        }

        @Override
        int effort() {
            return super.effort() - 1;
        }

        @Override
        int price() {
            return super.price() + 2;
        }
    }

    private static final class Between extends Stroke {
        Between(int figure) {
            super(figure);
        }

        @Override
        int kind() {
            return 6;
        }

        @Override
        int landing(int cell, int draught) {
            return cell / 3 * 3 + 1;
        }

        @Override
        int price() {
            return figure;
        }
    }

    private static final class Wander extends Lift {
        Wander(int figure) {
            super(figure);
        }

        @Override
        int kind() {
            return 7;
        }

        @Override
        int timeTo(int fall) {
            return super.timeTo(fall) + 1;
        }

        @Override
        int landing(int cell, int draught) {
            int column = Math.max(0, Math.min(2, cell % 3 + draught));
            return cell / 3 * 3 + column;
        }

        @Override
        int price() {
            return 0;
        }
    }
}
