import java.math.BigInteger;
import java.util.ArrayList;
import java.util.HashMap;
import java.util.List;
import java.util.Map;
import java.util.TreeMap;
import java.util.regex.Matcher;
import java.util.regex.Pattern;

/**
 * The document once more, written another way for the random runs: a court is a map that is copied for each thought,
 * players walk cell by cell, texts are read by patterns, odds are walked as a tree.
 */
final class Model {
    private static final int[] UNDER = {-1, 0, 0, 0, 2, 3, 0, 3};
    private static final long NO_LONG = 1000000001L;
    private static final Map<Character, Integer> DIGITS = Map.of('b', 2, 'p', 3, 't', 3, 'l', 1, 'f', 2, 'h', 2, 'd', 1, 'x', 2);

    /** Names of figures to figures: "at0", "form1", "hits" and so on; strokes beside. */
    private static final class State {
        final Map<String, Integer> all = new TreeMap<>();
        final List<int[]> strokes = new ArrayList<>();
        final int[] walked = new int[4];

        int get(String name) {
            return all.getOrDefault(name, 0);
        }

        int get(String name, int of) {
            return get(name + of);
        }

        void set(String name, int v) {
            all.put(name, v);
        }

        void set(String name, int of, int v) {
            all.put(name + of, v);
        }

        void tire(int p, int by) {
            set("tired", p, Math.min(99, get("tired", p) + by));
        }

        State copied() {
            State s = new State();
            s.all.putAll(all);
            s.strokes.addAll(strokes);
            return s;
        }
    }

    private State now = new State();
    private State picture;
    private final Map<Integer, int[]> kinds = new HashMap<>();
    private final Map<Integer, int[]> rows = new HashMap<>();
    private final Map<Integer, Integer> sorts = new HashMap<>();

    Model() {
        for (int p = 0; p < 4; p++) {
            now.set("at", p, p % 2 == 0 ? 1 : 7);
            now.set("pace", p, 1);
        }
        now.set("habit", 0, 1);
        now.set("habit", 1, 1);
    }

    private static boolean in(int v, int least, int most) {
        return v >= least && v <= most;
    }

    private static int way(int a, int b) {
        return Math.abs(a / 3 - b / 3) + Math.abs(a % 3 - b % 3);
    }

    // ---- strokes

    private static int time(int kind, int figure, int fall) {
        switch (kind) {
            case 0: return 3;
            case 1: return figure >= 5 ? 1 : 2;
            case 2: return fall <= 2 ? 2 : time(0, figure, fall);
            case 3: return time(UNDER[3], figure, fall) + 3;
            case 4: return time(UNDER[4], figure, fall) - 1;
            case 5: return time(UNDER[5], figure, fall) / 2;
            case 7: return time(UNDER[7], figure, fall) + 1;
            default: return time(UNDER[kind], figure, fall);
        }
    }

    private static int effort(int kind, int figure) {
        switch (kind) {
            case 0: return 1;
            case 1: return 5;
            case 2: return effort(UNDER[2], figure) + figure / 3;
            case 3: return effort(UNDER[3], figure) + 1;
            case 5: return effort(UNDER[5], figure) - 1;
            default: return effort(UNDER[kind], figure);
        }
    }

    private static int fall(int kind, int cell, int draught) {
        int column = cell % 3;
        if (kind == 6) {
            column = 1;
        }
        if (kind == 7) {
            column += draught;
            column = column < 0 ? 0 : column > 2 ? 2 : column;
        }
        return cell - cell % 3 + column;
    }

    private static int price(int kind, int figure) {
        int[] prices = {2, 6, 2 + figure, 1, (2 + figure) / 2, 3, figure, 0};
        return prices[kind];
    }

    // ---- the hit

    private static int fallOf(State s, int stroke, int cell) {
        return fall(s.strokes.get(stroke)[0], cell, s.get("draught"));
    }

    private static List<Integer> others(State s) {
        return s.get("has") < 2 ? List.of(2, 3) : List.of(0, 1);
    }

    private static boolean alike(State s, int fall) {
        List<Integer> two = others(s);
        return way(s.get("at", two.get(0)), fall) == way(s.get("at", two.get(1)), fall);
    }

    private static int whoseOf(State s, int fall) {
        List<Integer> two = others(s);
        int a = two.get(0);
        int b = two.get(1);
        if (!alike(s, fall)) {
            return way(s.get("at", a), fall) < way(s.get("at", b), fall) ? a : b;
        }
        int habit = s.get("habit", a / 2);
        if (habit == 1 || habit == 2) {
            return a;
        }
        if (habit == 3 && s.get("left", a) + s.get("left", b) == 1) {
            return s.get("left", a) == 1 ? a : b;
        }
        return 9;
    }

    private static int steps(State s, int p, int time) {
        int speed = s.get("pace", p) - s.get("tired", p) / 30;
        return time * (speed < 1 ? 1 : speed);
    }

    /** A hit on a copy; the points tell whether it made one. */
    private static State behind(State old, int stroke, int cell) {
        State s = old.copied();
        System.arraycopy(old.walked, 0, s.walked, 0, 4);
        int[] one = s.strokes.get(stroke);
        int fall = fallOf(s, stroke, cell);
        int time = time(one[0], one[1], fall);
        int hitter = s.get("has");
        s.set("hits", s.get("hits") + 1);
        s.tire(hitter, effort(one[0], one[1]));
        int his = whoseOf(s, fall);
        if (alike(s, fall) && s.get("habit", 1 - hitter / 2) == 2) {
            for (int p : others(s)) {
                s.tire(p, 3);
            }
        }
        if (his == 9 || way(s.get("at", his), fall) > steps(s, his, time)) {
            s.set("points", hitter / 2, s.get("points", hitter / 2) + 1);
            s.set("has", hitter / 2 * 2);
            return s;
        }
        int went = way(s.get("at", his), fall);
        s.walked[his] += went;
        s.tire(his, went);
        s.set("at", his, fall);
        s.set("has", his);
        int partner = his % 2 == 0 ? his + 1 : his - 1;
        walk(s, partner, placeBeside(s, his), steps(s, partner, time));
        return s;
    }

    private static int placeBeside(State s, int p) {
        int row = s.get("at", p) / 3;
        int column = s.get("at", p) % 3;
        return s.get("form", p / 2) == 0 ? 3 + 2 - column : (2 - row) * 3 + 1;
    }

    private static void walk(State s, int p, int to, int steps) {
        int at = s.get("at", p);
        for (int i = 0; i < steps && at != to; i++) {
            if (at % 3 != to % 3) {
                at += at % 3 < to % 3 ? 1 : -1;
            } else {
                at += at < to ? 3 : -3;
            }
            s.walked[p]++;
        }
        s.set("at", p, at);
    }

    private static int pointOf(State old, State s) {
        for (int side = 0; side < 2; side++) {
            if (s.get("points", side) != old.get("points", side)) {
                return side;
            }
        }
        return 2;
    }

    private static boolean makesPoint(State s, int stroke, int cell) {
        return pointOf(s, behind(s, stroke, cell)) != 2;
    }

    // ---- the face

    int court(int d) {
        int no = rowRefusal(d);
        if (no != 0) {
            return no;
        }
        if (sorts.get(d) != 0) {
            return -12;
        }
        StringBuilder b = new StringBuilder();
        for (int v : rows.get(d)) {
            b.append((char) (v & 255));
        }
        String text = b.toString();
        int place = firstWrongSign(text);
        if (place >= 0) {
            return -1000 - place;
        }
        State kept = now;
        now = now.copied();
        int statements = 0;
        Matcher m = Pattern.compile("([a-z])([0-9]+);").matcher(text);
        while (m.find()) {
            if (!statement(m.group(1).charAt(0), m.group(2))) {
                now = kept;
                return -2000 - m.start();
            }
            statements++;
        }
        return statements;
    }

    private static int firstWrongSign(String text) {
        Pattern whole = Pattern.compile("(?:[bfhx][0-9]{2};|[pt][0-9]{3};|[ld][0-9];)+");
        for (int i = 1; i <= text.length(); i++) {
            Matcher m = whole.matcher(text.substring(0, i));
            if (!m.matches() && !m.hitEnd()) {
                return i - 1;
            }
        }
        return whole.matcher(text).matches() ? -1 : text.length();
    }

    private boolean statement(char letter, String digits) {
        int[] n = digits.chars().map(c -> c - '0').toArray();
        if (n.length != DIGITS.get(letter)) {
            throw new IllegalStateException("the model is wrong");
        }
        switch (letter) {
            case 'b':
                if (n[0] > 7 || now.strokes.size() == 8) {
                    return false;
                }
                now.strokes.add(new int[] {n[0], n[1]});
                return true;
            case 'p': return stands(n[0], n[1], n[2]) >= 0;
            case 't': return tires(n[0], Integer.parseInt(digits.substring(1))) >= 0;
            case 'l': return hands(n[0]) >= 0;
            case 'f': return forms(n[0], 0, n[1]) >= 0;
            case 'h': return forms(n[0], 1, n[1]) >= 0;
            case 'd': return blows(n[0]) >= 0;
            default: return hit(n[0], n[1]) >= 0;
        }
    }

    int stroke(int s, int what) {
        if (!in(s, 0, now.strokes.size() - 1) || !in(what, 0, 4)) {
            return -1;
        }
        int[] one = now.strokes.get(s);
        return new int[] {one[0], one[1], effort(one[0], one[1]), time(one[0], one[1], 0), time(one[0], one[1], 8)}[what];
    }

    int player(int p, int what) {
        if (!in(p, 0, 3) || !in(what, 0, 4)) {
            return -1;
        }
        return what == 4 ? steps(now, p, 1) : now.get(new String[] {"at", "pace", "tired", "left"}[what], p);
    }

    int side(int s, int what) {
        if (!in(s, 0, 1) || !in(what, 0, 3)) {
            return -1;
        }
        if (what < 3) {
            return now.get(new String[] {"form", "habit", "points"}[what], s);
        }
        int leader = now.get("has") / 2 == s ? now.get("has") : 2 * s;
        int partner = 4 * s + 1 - leader;
        return way(now.get("at", partner), placeBeside(now, leader));
    }

    int learns(int d) {
        int no = kindRefusal(d);
        if (no != 0) {
            return no;
        }
        if (now.strokes.size() == 8) {
            return -2;
        }
        now.strokes.add(kinds.get(d).clone());
        return now.strokes.size() - 1;
    }

    int stands(int p, int cell, int pace) {
        if (!in(p, 0, 3) || !in(cell, 0, 8) || !in(pace, 1, 4)) {
            return -1;
        }
        now.set("pace", p, pace);
        return become("at", p, cell);
    }

    private int become(String name, int of, int v) {
        int was = now.get(name, of);
        now.set(name, of, v);
        return was;
    }

    int tires(int p, int v) {
        return in(p, 0, 3) && in(v, 0, 99) ? become("tired", p, v) : -1;
    }

    int hands(int p) {
        return in(p, 0, 3) ? 1 - become("left", p, 1 - now.get("left", p)) : -1;
    }

    int forms(int s, int what, int v) {
        if (!in(s, 0, 1) || !in(what, 0, 1) || !in(v, 0, what == 0 ? 1 : 3)) {
            return -1;
        }
        return become(what == 0 ? "form" : "habit", s, v);
    }

    int blows(int v) {
        if (!in(v, 0, 2)) {
            return -1;
        }
        int was = now.get("draught") + 1;
        now.set("draught", v - 1);
        return was;
    }

    private boolean isHit(int stroke, int cell) {
        return in(stroke, 0, now.strokes.size() - 1) && in(cell, 0, 8);
    }

    int hit(int stroke, int cell) {
        if (!isHit(stroke, cell)) {
            return -1;
        }
        if (now.get("hits") == 999 || now.get("points", 0) == 99 || now.get("points", 1) == 99) {
            return -3;
        }
        now = behind(now, stroke, cell);
        return now.get("has");
    }

    int whose(int stroke, int cell) {
        return isHit(stroke, cell) ? whoseOf(now, fallOf(now, stroke, cell)) : -1;
    }

    int wins(int stroke, int cell) {
        return !isHit(stroke, cell) ? -1 : makesPoint(now, stroke, cell) ? 1 : 0;
    }

    int falls(int stroke, int cell) {
        return isHit(stroke, cell) ? fallOf(now, stroke, cell) : -1;
    }

    int open(int stroke) {
        if (!isHit(stroke, 0)) {
            return -1;
        }
        int bits = 0;
        for (int cell = 8; cell >= 0; cell--) {
            bits = 2 * bits + wins(stroke, cell);
        }
        return bits;
    }

    int forced() {
        return firstPoint(now);
    }

    private static int firstPoint(State s) {
        for (int i = 0; i < 9 * s.strokes.size(); i++) {
            if (makesPoint(s, i / 9, i % 9)) {
                return i / 9 * 10 + i % 9;
            }
        }
        return -4;
    }

    int farthest(int stroke, int what) {
        if (!isHit(stroke, 0) || !in(what, 0, 1)) {
            return -1;
        }
        int best = 0;
        int longest = 0;
        for (int cell = 8; cell >= 0; cell--) {
            int fall = fallOf(now, stroke, cell);
            int his = whoseOf(now, fall);
            int led = his == 9 ? 99 : way(now.get("at", his), fall);
            if (led >= longest) {
                longest = led;
                best = cell;
            }
        }
        return what == 0 ? best : longest;
    }

    int atWhom(int stroke) {
        if (!isHit(stroke, 0)) {
            return -1;
        }
        int best = -4;
        int most = 0;
        for (int cell = 8; cell >= 0; cell--) {
            State s = behind(now, stroke, cell);
            int worn = s.get("tired", s.get("has"));
            if (pointOf(now, s) == 2 && worn >= most) {
                most = worn;
                best = cell;
            }
        }
        return best;
    }

    int fewest(int what) {
        if (!in(what, 0, 1)) {
            return -1;
        }
        if (now.strokes.isEmpty()) {
            return -3;
        }
        int mine = now.get("has") / 2;
        for (int length = 1; length <= 3; length++) {
            for (int i = 0; i < 9 * now.strokes.size(); i++) {
                if (scoresWithin(behind(now, i / 9, i % 9), now, mine, length - 1)) {
                    return what == 0 ? length : i / 9 * 10 + i % 9;
                }
            }
        }
        return -4;
    }

    /** Whether side mine has a point more than in the first state, by so many hits more at most. */
    private static boolean scoresWithin(State s, State first, int mine, int hits) {
        if (pointOf(first, s) != 2 || hits == 0) {
            return pointOf(first, s) == mine;
        }
        if (s.get("has") / 2 != mine) {
            return scoresWithin(behind(s, 0, 4), first, mine, hits - 1);
        }
        return firstPoint(s) != -4;
    }

    int bestForm(int s, int what) {
        return best(s, what, "form", 2);
    }

    int bestHabit(int s, int what) {
        return best(s, what, "habit", 4);
    }

    private int best(int s, int what, String name, int choices) {
        if (!in(s, 0, 1) || !in(what, 0, 1)) {
            return -1;
        }
        if (now.strokes.isEmpty()) {
            return -3;
        }
        int best = -1;
        int most = -1;
        for (int v = 0; v < choices; v++) {
            int cells = 0;
            for (int c = 0; c < 9; c++) {
                State start = now.copied();
                start.set(name, s, v);
                if (start.get("has") / 2 == s) {
                    start.set("has", 2 - 2 * s);
                }
                cells += pointOf(start, rallied(start, new int[] {0, c, 0, 4, 0, 8 - c})) == 1 - s ? 0 : 1;
            }
            if (cells > most) {
                most = cells;
                best = v;
            }
        }
        return what == 0 ? best : most;
    }

    /** What is behind hits, till a point. */
    private static State rallied(State start, int[] told) {
        State s = start.copied();
        for (int i = 0; i < told.length && pointOf(start, s) == 2; i += 2) {
            s = behind(s, told[i], told[i + 1]);
        }
        return s;
    }

    int change(int stroke, int cell, int p, int what) {
        if (!isHit(stroke, cell) || !in(p, 0, 3) || !in(what, 0, 1)) {
            return -1;
        }
        return behind(now, stroke, cell).get(what == 0 ? "at" : "tired", p);
    }

    private int rowRefusal(int d) {
        if (!in(d, 0, 7)) {
            return -1;
        }
        return rows.containsKey(d) ? 0 : kinds.containsKey(d) ? -12 : -11;
    }

    private int kindRefusal(int d) {
        if (!in(d, 0, 7)) {
            return -1;
        }
        return kinds.containsKey(d) ? 0 : rows.containsKey(d) ? -12 : -11;
    }

    private int rallyRefusal(int d) {
        int no = rowRefusal(d);
        if (no != 0) {
            return no;
        }
        int[] told = rows.get(d);
        boolean fine = told.length % 2 == 0;
        for (int i = 0; fine && i < told.length; i += 2) {
            fine = isHit(told[i], told[i + 1]);
        }
        return fine ? 0 : -13;
    }

    int rally(int d, int what) {
        int no = in(what, 0, 1) ? rallyRefusal(d) : -1;
        if (no != 0) {
            return no;
        }
        State s = rallied(now, rows.get(d));
        return what == 1 ? pointOf(now, s) : s.get("hits") - now.get("hits");
    }

    int ways(int d, int p) {
        int no = in(p, 0, 3) ? rallyRefusal(d) : -1;
        return no != 0 ? no : rallied(now, rows.get(d)).walked[p];
    }

    int spent(int d) {
        int no = rallyRefusal(d);
        if (no != 0) {
            return no;
        }
        State s = rallied(now, rows.get(d));
        int most = 3;
        for (int p = 3; p >= 0; p--) {
            most = s.get("tired", p) >= s.get("tired", most) ? p : most;
        }
        return most;
    }

    private boolean told(int d, int i, int figure) {
        long least = -(1L << (8 << sorts.get(d)) - 1);
        int v = rows.get(d)[i];
        return v == least || v == figure;
    }

    int whatIs(int d, int stroke, int what) {
        int no = isHit(stroke, 0) && in(what, 0, 1) ? rowRefusal(d) : -1;
        if (no != 0) {
            return no;
        }
        int size = rows.get(d).length;
        if (size > 9) {
            return -13;
        }
        int bits = 0;
        for (int v = 0; v < (what == 0 ? 8 : 3); v++) {
            boolean so = true;
            for (int c = 0; c < size; c++) {
                int fell = what == 0 ? fall(v, c, now.get("draught")) : fall(now.strokes.get(stroke)[0], c, v - 1);
                so &= told(d, c, fell);
            }
            bits += so ? 1 << v : 0;
        }
        return bits;
    }

    int habits(int d) {
        int no = rowRefusal(d);
        if (no != 0) {
            return no;
        }
        int size = rows.get(d).length;
        if (size > 9) {
            return -13;
        }
        if (now.strokes.isEmpty()) {
            return -3;
        }
        int bits = 0;
        for (int v = 0; v < 4; v++) {
            State s = now.copied();
            s.set("habit", 1 - s.get("has") / 2, v);
            boolean so = true;
            for (int c = 0; c < size; c++) {
                so &= told(d, c, whoseOf(s, fallOf(s, 0, c)));
            }
            bits += so ? 1 << v : 0;
        }
        return bits;
    }

    int two() {
        if (now.strokes.isEmpty()) {
            return -3;
        }
        int[][] have = new int[4][2];
        for (int pair = 0; pair < 4; pair++) {
            State start = now.copied();
            start.set("form", 0, pair / 2);
            start.set("form", 1, pair % 2);
            State s = rallied(start, new int[] {0, 0, 0, 8, 0, 0, 0, 8, 0, 0, 0, 8});
            for (int side = 0; side < 2; side++) {
                have[pair][side] = s.get("tired", 2 * side) + s.get("tired", 2 * side + 1);
                have[pair][side] -= pointOf(now, s) == side ? 9 : 0;
            }
        }
        for (int pair = 0; pair < 4; pair++) {
            if (have[pair ^ 2][0] >= have[pair][0] && have[pair ^ 1][1] >= have[pair][1]) {
                return pair / 2 * 10 + pair % 2;
            }
        }
        return -4;
    }

    long draughts(int n, int t, int part) {
        if (!in(n, 0, 5) || n > now.strokes.size() || !in(t, 2, 20) || !in(part, 0, 1)) {
            return NO_LONG;
        }
        return reduced(heldOdds(now, 0, n, t), BigInteger.valueOf(t).pow(n), part);
    }

    private BigInteger heldOdds(State s, int i, int n, int t) {
        if (i == n) {
            return BigInteger.ONE;
        }
        State blown = s.copied();
        blown.set("draught", 1);
        State still = s.copied();
        still.set("draught", now.get("draught"));
        BigInteger sum = BigInteger.ZERO;
        State after = behind(blown, i, 2);
        if (pointOf(blown, after) == 2) {
            sum = sum.add(heldOdds(after, i + 1, n, t));
        }
        after = behind(still, i, 2);
        if (pointOf(still, after) == 2) {
            sum = sum.add(heldOdds(after, i + 1, n, t).multiply(BigInteger.valueOf(t - 1)));
        }
        return sum;
    }

    private static long reduced(BigInteger above, BigInteger below, int part) {
        return (part == 0 ? above : below).divide(above.gcd(below)).longValueExact();
    }

    long mean(int part) {
        return in(part, 0, 1) ? reduced(BigInteger.valueOf(count(4)), BigInteger.valueOf(4), part) : NO_LONG;
    }

    int forged(int d) {
        int no = rowRefusal(d);
        if (no != 0) {
            return no;
        }
        int[] told = rows.get(d);
        if (told.length % 2 != 0) {
            return -13;
        }
        State s = now;
        for (int i = 0; i < told.length; i += 2) {
            if (!isHit(told[i], told[i + 1]) || pointOf(now, s) != 2) {
                return i / 2;
            }
            s = behind(s, told[i], told[i + 1]);
        }
        return -4;
    }

    int judge(int d) {
        int no = rowRefusal(d);
        if (no != 0) {
            return no;
        }
        if (now.strokes.isEmpty()) {
            return -3;
        }
        State s = now;
        for (int i = 0; i < rows.get(d).length; i++) {
            if (!told(d, i, s.get("points", 0) + s.get("points", 1))) {
                return i;
            }
            s = behind(s, 0, i % 2 == 0 ? 0 : 8);
        }
        return -4;
    }

    int nights(int n, int z, int what) {
        if (!in(n, 1, 20) || !in(what, 0, 1)) {
            return -1;
        }
        if (now.strokes.isEmpty()) {
            return -3;
        }
        BigInteger seed = BigInteger.valueOf(z);
        int more = 0;
        for (int night = 0; night < n; night++) {
            State s = now;
            for (int i = 0; i < 12; i++) {
                seed = next(seed);
                int stroke = drawn(seed, now.strokes.size());
                seed = next(seed);
                s = behind(s, stroke, drawn(seed, 9));
            }
            more += s.get("points", what) - now.get("points", what);
        }
        return more;
    }

    private static BigInteger next(BigInteger seed) {
        BigInteger z = seed.multiply(BigInteger.valueOf(1103515245)).add(BigInteger.valueOf(12345));
        return BigInteger.valueOf(z.intValue());
    }

    private static int drawn(BigInteger seed, int bound) {
        return seed.clearBit(31).mod(BigInteger.ONE.shiftLeft(31)).divide(BigInteger.valueOf(65536)).intValue() % bound;
    }

    int image() {
        picture = now.copied();
        return now.get("hits");
    }

    int restore() {
        if (picture == null) {
            return -3;
        }
        now = picture.copied();
        return now.get("hits");
    }

    int count(int what) {
        int tired = 0;
        int left = 0;
        for (int p = 0; p < 4; p++) {
            tired += now.get("tired", p);
            left += now.get("left", p) << p;
        }
        int[] all = {now.strokes.size(), now.get("hits"), now.get("has"), now.get("draught") + 1, tired, left};
        return in(what, 0, 5) ? all[what] : -1;
    }

    private void emptied(int d) {
        kinds.remove(d);
        rows.remove(d);
        sorts.remove(d);
    }

    int keep(int d, int what, int k, int figure) {
        if (!in(d, 0, 7) || !in(what, 0, 1) || what == 1 && (!in(k, 0, 7) || !in(figure, 0, 9))) {
            return -1;
        }
        emptied(d);
        if (what == 1) {
            kinds.put(d, new int[] {k, figure});
        }
        return 0;
    }

    int row(int d, int sort, int n) {
        if (!in(d, 0, 7) || !in(sort, 0, 2) || n > 100) {
            return -1;
        }
        if (n < 0) {
            return -14;
        }
        emptied(d);
        rows.put(d, new int[n]);
        sorts.put(d, sort);
        return 0;
    }

    int put(int d, int i, int v) {
        int no = rowRefusal(d);
        if (no != 0) {
            return no;
        }
        if (!in(i, 0, rows.get(d).length - 1)) {
            return -13;
        }
        int unused = 32 - (8 << sorts.get(d));
        rows.get(d)[i] = v << unused >> unused;
        return 0;
    }

    long element(int d, int i) {
        if (!in(d, 0, 7)) {
            throw new IllegalArgumentException();
        }
        if (!rows.containsKey(d) || !in(i, 0, rows.get(d).length - 1)) {
            throw new IllegalStateException();
        }
        return rows.get(d)[i];
    }

    int copy(int d, int i, int e, int j, int n) {
        if (!in(d, 0, 7) || !in(e, 0, 7)) {
            return -1;
        }
        if (rowRefusal(d) == -11 || rowRefusal(e) == -11) {
            return -11;
        }
        if (!rows.containsKey(d) || !rows.containsKey(e) || !sorts.get(d).equals(sorts.get(e))) {
            return -12;
        }
        int[] from = rows.get(d).clone();
        int[] to = rows.get(e);
        if (n < 0 || i < 0 || j < 0 || (long) i + n > from.length || (long) j + n > to.length) {
            return -13;
        }
        for (int k = 0; k < n; k++) {
            to[j + k] = from[i + k];
        }
        return n;
    }

    int cost(int d) {
        int no = kindRefusal(d);
        return no != 0 ? no : price(kinds.get(d)[0], kinds.get(d)[1]);
    }

    int toss(int d) {
        int no = kindRefusal(d);
        if (no != 0) {
            return no;
        }
        int k = kinds.get(d)[0];
        int figure = kinds.get(d)[1];
        if (figure == 0 || k == 3 || k == 5 || k == 7) {
            return -15;
        }
        return k == 4 ? 200 + price(k, figure) : k == 2 ? 100 + figure : figure;
    }
}
