import java.lang.reflect.Constructor;
import java.lang.reflect.Field;
import java.lang.reflect.Method;
import java.lang.reflect.Modifier;
import java.nio.file.Files;
import java.nio.file.Path;
import java.util.ArrayList;
import java.util.Arrays;
import java.util.HashSet;
import java.util.List;
import java.util.Set;

/** The public face, and those rules of LANGUAGE.md that can be seen from the compiled class. */
public final class FaceTest {
    private static final String[] FACE = {"court:1", "stroke:2", "player:2", "side:2", "learns:1", "stands:3", "tires:2",
        "hands:1", "forms:3", "blows:1", "hit:2", "whose:2", "wins:2", "falls:2", "open:1", "forced:0", "farthest:2",
        "atWhom:1", "fewest:1", "bestForm:2", "bestHabit:2", "change:4", "rally:2", "ways:2", "spent:1", "whatIs:3",
        "habits:1", "two:0", "draughts:3", "mean:1", "forged:1", "judge:1", "nights:3", "image:0", "restore:0", "count:1",
        "keep:4", "row:3", "put:3", "element:2", "copy:5", "cost:1", "toss:1"};
    private static final Set<String> LONGS = Set.of("draughts", "mean", "element");
    private static final Check check = new Check();

    public static void main(String[] args) throws Exception {
        theClass();
        theMethods();
        nothingElse(SideBySide.class);
        classesInside();
        staticFields();
        sourceIsPlain();
        check.end();
    }

    private static void theClass() {
        check.due("public and final", SideBySide.class.getModifiers(), Modifier.PUBLIC | Modifier.FINAL);
        check.dueTrue("no package", SideBySide.class.getPackageName().isEmpty());
        Constructor<?>[] made = SideBySide.class.getDeclaredConstructors();
        check.due("constructors", made.length, 1);
        check.due("a public constructor", made[0].getModifiers(), Modifier.PUBLIC);
        check.due("without parameters", made[0].getParameterCount(), 0);
    }

    private static void theMethods() throws Exception {
        for (String one : FACE) {
            String name = one.substring(0, one.indexOf(':'));
            Class<?>[] ints = new Class<?>[Integer.parseInt(one.substring(one.indexOf(':') + 1))];
            Arrays.fill(ints, int.class);
            Method m = SideBySide.class.getDeclaredMethod(name, ints);
            check.due(name + " is public", m.getModifiers(), Modifier.PUBLIC);
            check.dueTrue(name + " answers so", m.getReturnType() == (LONGS.contains(name) ? long.class : int.class));
            check.due(name + " throws", m.getExceptionTypes().length, name.equals("element") ? 2 : 0);
        }
    }

    private static void nothingElse(Class<?> c) {
        Set<String> names = new HashSet<>();
        for (String one : FACE) {
            names.add(one.substring(0, one.indexOf(':')));
        }
        int open = 0;
        for (Method m : c.getDeclaredMethods()) {
            boolean hidden = Modifier.isPrivate(m.getModifiers());
            open += hidden ? 0 : 1;
            check.dueTrue(m.getName() + " is of the face or private", hidden != names.contains(m.getName()));
            check.dueTrue(m.getName() + " has 7 parameters at most", m.getParameterCount() <= 7);
        }
        check.due("open methods", open, FACE.length);
        for (Field f : c.getDeclaredFields()) {
            check.dueTrue(f.getName() + " is private", Modifier.isPrivate(f.getModifiers()));
        }
    }

    private static List<Class<?>> all() {
        List<Class<?>> all = new ArrayList<>();
        all.add(SideBySide.class);
        all.addAll(Arrays.asList(SideBySide.class.getDeclaredClasses()));
        return all;
    }

    private static void classesInside() {
        check.dueTrue("twelve classes at most", all().size() <= 12);
        for (Class<?> c : SideBySide.class.getDeclaredClasses()) {
            check.dueTrue(c.getName() + " is static", Modifier.isStatic(c.getModifiers()));
            check.dueTrue(c.getName() + " is not open", !Modifier.isPublic(c.getModifiers()) && !Modifier.isProtected(c.getModifiers()));
            check.due(c.getName() + " holds no class", c.getDeclaredClasses().length, 0);
            for (Method m : c.getDeclaredMethods()) {
                check.dueTrue(m.getName() + " has 7 parameters at most", m.getParameterCount() <= 7);
            }
        }
    }

    private static void staticFields() {
        for (Class<?> c : all()) {
            int fields = 0;
            for (Field f : c.getDeclaredFields()) {
                boolean kept = Modifier.isStatic(f.getModifiers());
                fields += kept ? 0 : 1;
                check.dueTrue(f.getName() + " changes with its object", !kept || Modifier.isFinal(f.getModifiers()));
            }
            check.dueTrue(c.getName() + " has some twenty fields at most", fields <= 20);
        }
    }

    /** Words that the language leaves out, and catches of what the machine throws. */
    private static void sourceIsPlain() throws Exception {
        String source = Files.readString(Path.of("src/main/java/SideBySide.java"));
        String[] left = {"import ", "package ", "->", "::", "finally", "synchronized", "assert ", "RuntimeException",
            "IndexOutOfBounds", "NullPointer", "ArithmeticException", "ClassCast", "NegativeArraySize", "ArrayStore",
            "catch (Exception", "catch (Throwable", "Exact(", "Random", "System.nano", "System.current", "MAX_VALUE",
            "double", "float", "static {"};
        for (String word : left) {
            check.dueTrue("no \"" + word + "\" in the source", !source.contains(word));
        }
        check.dueTrue("signs 1 to 127", source.chars().allMatch(c -> c >= 1 && c <= 127));
    }
}
