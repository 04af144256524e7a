import java.lang.reflect.InvocationTargetException;
import java.lang.reflect.Method;
import java.lang.reflect.Modifier;
import java.util.ArrayList;
import java.util.Arrays;
import java.util.Comparator;
import java.util.List;
import java.util.Map;
import java.util.Random;
import java.util.Set;
import java.util.TreeMap;

/** All promises: runs of 512 calls by chance, the same each time, each answered as the model answers. */
public final class RandomRunsTest {
    private static final int RUNS = 700;
    private static final int CALLS = 512;
    private static final int[] FAR = {Integer.MIN_VALUE, Integer.MAX_VALUE, -1, 9, 10, 100, 101, -129, 256, 65536};

    private static final Check check = new Check();
    private static final Map<String, Integer> calls = new TreeMap<>();
    private static final Map<String, TreeMap<Long, Integer>> seen = new TreeMap<>();

    public static void main(String[] args) throws Exception {
        List<Method> face = new ArrayList<>();
        for (Method m : SideBySide.class.getDeclaredMethods()) {
            if (Modifier.isPublic(m.getModifiers())) {
                face.add(m);
            }
        }
        face.sort(Comparator.comparing(Method::getName));
        check.due("calls of the face", face.size(), 44 - 1);
        for (int run = 0; run < RUNS; run++) {
            new Run(run, face).go();
        }
        for (Method m : face) {
            check.dueTrue(m.getName() + " was asked often", calls.getOrDefault(m.getName(), 0) > RUNS);
        }
        seenEnough();
        check.end();
    }

    /** That the runs reach what is seldom: else they would say little. */
    private static void seenEnough() {
        long[] fewest = {-4, -3, -1, 1, 3};
        for (long answer : fewest) {
            check.dueTrue("fewest answered " + answer, seen.get("fewest").containsKey(answer));
        }
        // Who took it once stands where it falls again, so no form changes what is reckoned, and 00 is the first.
        check.dueTrue("two answered 0 and -3 alone", seen.get("two").keySet().equals(Set.of(-3L, 0L)));
        check.dueTrue("bestForm answered 1", seen.get("bestForm").containsKey(1L));
        check.dueTrue("bestHabit answered 3", seen.get("bestHabit").containsKey(3L));
        check.dueTrue("hit answered -3", seen.get("hit").containsKey(-3L));
        check.dueTrue("draughts answered several fractions", seen.get("draughts").size() > 8);
        check.dueTrue("court answered many faults", seen.get("court").size() > 60);
        check.dueTrue("judge answered many places", seen.get("judge").size() > 8);
    }

    private static final class Run {
        private final int number;
        private final Random chance;
        private final List<Method> face;
        private final SideBySide x = new SideBySide();
        private final Model model = new Model();
        private int made;

        Run(int number, List<Method> face) {
            this.number = number;
            this.chance = new Random(77777L + number);
            this.face = face;
        }

        void go() throws Exception {
            switch (number % 8) {
                case 0:
                    break;
                case 1:
                    makePoints();
                    break;
                case 2:
                    tellText(0, wanderText());
                    break;
                default:
                    tellText(0, courtText());
                    break;
            }
            while (made < CALLS) {
                int kind = chance.nextInt(40);
                if (kind == 0 && made < CALLS - 110) {
                    tellText(chance.nextInt(8), courtText());
                } else if (kind == 1) {
                    tellRally(chance.nextInt(8));
                } else if (kind == 2) {
                    tellNumbers(chance.nextInt(8));
                } else {
                    Method m = face.get(chance.nextInt(face.size()));
                    ask(m.getName(), argumentsOf(m));
                }
            }
        }

        private int below(int n) {
            return chance.nextInt(n);
        }

        /** Statements of all letters, most of them fine, at times with a wrong sign. */
        private String courtText() {
            StringBuilder b = new StringBuilder();
            int statements = 1 + below(14);
            for (int i = 0; i < statements; i++) {
                String letters = "bbbpppttlfhhdxxx";
                char letter = letters.charAt(below(letters.length()));
                int wild = below(60) == 0 ? 10 : 0;
                b.append(letter);
                switch (letter) {
                    case 'b': b.append(below(wild + 8) % 10).append(below(10)); break;
                    case 'p': b.append(below(wild + 4) % 10).append(below(9 + wild) % 10).append(wild > 0 ? below(10) : 1 + below(4)); break;
                    case 't': b.append(below(wild + 4) % 10).append(below(10)).append(below(10)); break;
                    case 'l': b.append(below(wild + 4) % 10); break;
                    case 'f': b.append(below(wild + 2) % 10).append(below(wild + 2) % 10); break;
                    case 'h': b.append(below(wild + 2) % 10).append(below(wild + 4) % 10); break;
                    case 'd': b.append(below(wild + 3) % 10); break;
                    default: b.append(below(Math.min(10, model.count(0) + 1 + wild / 5))).append(below(9)); break;
                }
                b.append(';');
            }
            if (below(12) == 0) {
                b.setCharAt(below(b.length()), (char) below(256));
            }
            if (below(12) == 0) {
                b.setLength(below(b.length()));
            }
            b.setLength(Math.min(100, b.length()));
            return b.toString();
        }

        /** Brings points to their end, or nearly. */
        private void makePoints() throws Exception {
            tellText(0, "b09;b32;p211;p311;h10;");
            tellText(0, "x00;".repeat(11));
            int more = 6 + below(4);
            for (int i = 0; i < more; i++) {
                ask("court", 0);
            }
        }

        /** Strokes that a draught may carry to where they are nobody's, or away from there. */
        private String wanderText() {
            StringBuilder b = new StringBuilder();
            for (int i = 0; i < 5; i++) {
                b.append(below(4) == 0 ? "b19;" : "b70;");
            }
            for (int p = 0; p < 4; p++) {
                b.append('p').append(p).append(below(6)).append(1 + below(2)).append(';');
            }
            return b.append("d0;h00;h1").append(below(4)).append(';').toString();
        }

        private void tellText(int d, String text) throws Exception {
            ask("row", d, 0, text.length());
            for (int i = 0; i < text.length(); i++) {
                ask("put", d, i, (int) text.charAt(i));
            }
            ask("court", d);
        }

        private void tellRally(int d) throws Exception {
            int hits = below(8);
            int[] told = new int[2 * hits];
            for (int i = 0; i < hits; i++) {
                told[2 * i] = below(Math.max(1, model.count(0)));
                told[2 * i + 1] = below(9);
            }
            if (hits > 0 && below(6) == 0) {
                told[below(2 * hits)] = below(12) - 2;
            }
            tellRow(d, told);
            ask("rally", d, 0);
            ask("rally", d, 1);
            ask("spent", d);
            ask("forged", d);
            for (int p = 0; p < 4; p++) {
                ask("ways", d, p);
            }
        }

        /** Rows that are nearly what whatIs, habits and judge look for. */
        private void tellNumbers(int d) throws Exception {
            int size = below(11);
            int[] told = new int[size];
            int what = below(3);
            int stroke = below(Math.max(1, model.count(0)));
            for (int i = 0; i < size; i++) {
                told[i] = what == 0 ? model.falls(stroke, i % 9) : what == 1 ? model.whose(0, i % 9)
                    : model.side(0, 2) + model.side(1, 2) + below(1 + i / 3);
                if (below(8) == 0) {
                    told[i] = Integer.MIN_VALUE;
                }
            }
            tellRow(d, told);
            ask("whatIs", d, stroke, 0);
            ask("whatIs", d, stroke, 1);
            ask("habits", d);
            ask("judge", d);
        }

        private void tellRow(int d, int... told) throws Exception {
            int sort = below(3);
            int least = -1 << (8 << sort) - 1;
            ask("row", d, sort, told.length);
            for (int i = 0; i < told.length; i++) {
                ask("put", d, i, told[i] == Integer.MIN_VALUE ? least : told[i]);
            }
        }

        private Object[] argumentsOf(Method m) {
            Object[] arguments = new Object[m.getParameterCount()];
            for (int i = 0; i < arguments.length; i++) {
                arguments[i] = below(25) == 0 ? FAR[below(FAR.length)] : usual(m.getName(), i);
            }
            return arguments;
        }

        private int usual(String name, int i) {
            switch (name) {
                case "stands": return new int[] {below(4), below(9), 1 + below(4)}[i];
                case "tires": return i == 0 ? below(4) : below(100);
                case "forms": return new int[] {below(2), below(2), below(3)}[i];
                case "draughts": return new int[] {below(6), 2 + below(19), below(2)}[i];
                case "nights": return new int[] {1 + below(3), chance.nextInt(), below(2)}[i];
                case "keep": return new int[] {below(8), below(6) == 0 ? 0 : 1, below(8), below(10)}[i];
                case "row": return new int[] {below(8), below(3), below(12)}[i];
                case "put": return new int[] {below(8), below(6), below(20) - 4}[i];
                case "copy": return i == 0 || i == 2 ? below(4) : below(5);
                case "element": return i == 0 ? below(8) : below(6);
                case "whatIs": return i == 0 ? below(8) : below(2);
                case "blows": return below(3);
                case "player": case "hands": return i == 0 ? below(4) : below(5);
                case "stroke": return i == 0 ? below(8) : below(5);
                case "side": return i == 0 ? below(2) : below(4);
                case "count": return below(6);
                case "bestForm": case "bestHabit": case "fewest": case "mean": return below(2);
                case "rally": return i == 0 ? below(8) : below(2);
                case "ways": return i == 0 ? below(8) : below(4);
                case "farthest": return i == 0 ? below(Math.max(1, model.count(0))) : below(2);
                case "hit": case "whose": case "wins": case "falls": case "open": case "atWhom":
                    return i == 0 ? below(Math.max(1, model.count(0))) : below(9);
                case "change": return new int[] {below(Math.max(1, model.count(0))), below(9), below(4), below(2)}[i];
                default: return below(8);
            }
        }

        private void ask(String name, Object... arguments) throws Exception {
            if (made == CALLS) {
                return;
            }
            made++;
            calls.merge(name, 1, Integer::sum);
            Class<?>[] ints = new Class<?>[arguments.length];
            Arrays.fill(ints, int.class);
            String got = answer(SideBySide.class.getDeclaredMethod(name, ints), x, arguments);
            String due = answer(Model.class.getDeclaredMethod(name, ints), model, arguments);
            if (!got.startsWith("throws")) {
                seen.computeIfAbsent(name, k -> new TreeMap<>()).merge(Long.parseLong(got), 1, Integer::sum);
            }
            check.dueTrue("run " + number + ", call " + made + ": " + name + Arrays.toString(arguments)
                + " answered " + got + ", due is " + due, got.equals(due));
        }

        private static String answer(Method m, Object on, Object[] arguments) throws Exception {
            m.setAccessible(true);
            try {
                return String.valueOf(((Number) m.invoke(on, arguments)).longValue());
            } catch (InvocationTargetException e) {
                return "throws " + e.getCause().getClass().getName();
            }
        }
    }
}
