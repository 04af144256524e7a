import java.lang.reflect.InvocationTargetException;
import java.lang.reflect.Method;

/** Collects answers that are not as due, and makes rows and courts for the tests. */
final class Check {
    static final int BYTES = 0;
    static final int SHORTS = 1;
    static final int INTS = 2;
    static final int[] NEITHER_NOR = {Integer.MIN_VALUE, Integer.MIN_VALUE + 1, Integer.MAX_VALUE};

    /** A call, or several; what it answers. */
    interface Call {
        long on(SideBySide x);
    }

    /** Makes an object, the same each time. */
    interface Maker {
        SideBySide make();
    }

    private int asked;
    private int wrong;

    void due(String call, long got, long want) {
        asked++;
        if (got != want) {
            wrong++;
            System.out.println(call + " answered " + got + ", due is " + want);
        }
    }

    void dueText(String call, String got, String want) {
        asked++;
        if (!got.equals(want)) {
            wrong++;
            System.out.println(call + " answered " + got + ", due is " + want);
        }
    }

    void dueTrue(String what, boolean holds) {
        due(what, holds ? 1 : 0, 1);
    }

    /** That the call answers so, and that nothing has changed by it: a twin without it is the same in all. */
    void changesNothing(String what, long want, Maker maker, Call call) {
        SideBySide x = maker.make();
        due(what, call.on(x), want);
        dueTrue(what + " changes nothing", whole(x).equals(whole(maker.make())));
    }

    /** Ends the program with exit code 1 if an answer was not as due, or if nothing was asked. */
    void end() {
        System.out.println(asked + " answers looked at, " + wrong + " not as due");
        if (wrong > 0 || asked == 0) {
            System.exit(1);
        }
    }

    static void row(SideBySide x, int d, int sort, int... values) {
        must(x.row(d, sort, values.length));
        for (int i = 0; i < values.length; i++) {
            must(x.put(d, i, values[i]));
        }
    }

    static void text(SideBySide x, int d, String text) {
        int[] signs = new int[text.length()];
        for (int i = 0; i < signs.length; i++) {
            signs[i] = text.charAt(i);
        }
        row(x, d, BYTES, signs);
    }

    /** What court answers to a text on shelf 7. */
    static int told(SideBySide x, String text) {
        text(x, 7, text);
        return x.court(7);
    }

    /** A new object to which a text was told that has no fault. */
    static SideBySide of(String text) {
        SideBySide x = new SideBySide();
        if (!text.isEmpty() && told(x, text) < 1) {
            throw new IllegalStateException("the test's text has a fault: " + text);
        }
        return x;
    }

    /** What a call answers that is told as in "whose(0, 4)"; "throws E" where it throws E. */
    static String ask(SideBySide x, String call) {
        int open = call.indexOf('(');
        String inside = call.substring(open + 1, call.length() - 1).trim();
        String[] told = inside.isEmpty() ? new String[0] : inside.split(",");
        Object[] figures = new Object[told.length];
        for (int i = 0; i < told.length; i++) {
            figures[i] = Integer.parseInt(told[i].trim());
        }
        try {
            return String.valueOf(named(call.substring(0, open)).invoke(x, figures));
        } catch (InvocationTargetException e) {
            return "throws " + e.getCause().getClass().getSimpleName();
        } catch (IllegalAccessException e) {
            throw new IllegalStateException(call + " is not public", e);
        }
    }

    private static Method named(String name) {
        for (Method m : SideBySide.class.getMethods()) {
            if (m.getName().equals(name)) {
                return m;
            }
        }
        throw new IllegalStateException("no call " + name);
    }

    private static void must(int answer) {
        if (answer != 0) {
            throw new IllegalStateException("the test's row was refused");
        }
    }

    /** All that count, player, side and stroke tell. */
    static String state(SideBySide x) {
        StringBuilder all = new StringBuilder();
        for (int what = 0; what < 6; what++) {
            all.append(x.count(what)).append(' ');
        }
        for (int p = 0; p < 4; p++) {
            for (int what = 0; what < 4; what++) {
                all.append(x.player(p, what)).append(' ');
            }
        }
        for (int s = 0; s < 2; s++) {
            for (int what = 0; what < 3; what++) {
                all.append(x.side(s, what)).append(' ');
            }
        }
        for (int s = 0; s < x.count(0); s++) {
            all.append(x.stroke(s, 0)).append('/').append(x.stroke(s, 1)).append(' ');
        }
        return all.toString();
    }

    /** State, shelves and image: all of an object that can be told; the object is used up by it. */
    static String whole(SideBySide x) {
        StringBuilder all = new StringBuilder(state(x));
        for (int d = 0; d < 8; d++) {
            all.append("| ").append(x.cost(d)).append(' ').append(x.toss(d)).append(' ');
            all.append(rowOn(x, d)).append(' ');
        }
        all.append("| ").append(x.restore()).append(' ').append(state(x));
        return all.toString();
    }

    /** The elements, and what becomes of a great number in the first one, which tells the SORT. */
    private static String rowOn(SideBySide x, int d) {
        StringBuilder all = new StringBuilder();
        try {
            for (int i = 0; i <= 100; i++) {
                all.append(x.element(d, i)).append(' ');
            }
        } catch (IllegalStateException e) {
            all.append("no more ");
        }
        if (x.put(d, 0, 70000) == 0) {
            all.append(x.element(d, 0));
        }
        return all.toString();
    }
}
