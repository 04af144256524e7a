import java.nio.file.Files;
import java.nio.file.Path;
import java.util.List;
import java.util.regex.Matcher;
import java.util.regex.Pattern;

/** What README.md tells of each call, in its Java lines, is what the class answers. */
public final class ReadmeTest {
    private static final String NEW = "SideBySide x = new SideBySide();";
    private static final String ANSWER = "\\s+// (-?\\d+|throws \\w+): .+";
    private static final Pattern CALL = Pattern.compile("x\\.(\\w+\\([^)]*\\));" + ANSWER);
    private static final Pattern TEXT = Pattern.compile("tell\\(x, (\\d), \"([^\"]*)\"\\);" + ANSWER);
    private static final Check check = new Check();

    private static SideBySide x;
    private static int told;

    public static void main(String[] args) throws Exception {
        List<String> readme = Files.readAllLines(Path.of("README.md"));
        String itself = Files.readString(Path.of("src/test/java/ReadmeTest.java"));
        boolean java = false;
        boolean helper = false;
        for (String line : readme) {
            if (line.startsWith("```")) {
                java = line.equals("```java");
                helper = false;
            } else if (java) {
                helper = helper || line.startsWith("static ");
                if (helper) {
                    check.dueTrue("the method of this test: " + line, itself.contains("    " + line + "\n"));
                } else {
                    look(line);
                }
            }
        }
        check.dueTrue("calls told: " + told, told > 50);
        check.dueTrue("the command is told", readme.contains(".ci/run"));
        everyTestIsTold(String.join("\n", readme));
        check.end();
    }

    private static void look(String line) {
        Matcher call = CALL.matcher(line);
        Matcher text = TEXT.matcher(line);
        if (line.equals(NEW)) {
            x = new SideBySide();
        } else if (call.matches()) {
            told++;
            check.dueText(line, Check.ask(x, call.group(1)), call.group(2));
        } else if (text.matches()) {
            told++;
            int d = Integer.parseInt(text.group(1));
            check.dueText(line, String.valueOf(tell(x, d, text.group(2))), text.group(3));
        } else {
            check.dueTrue("told as a call and its answer: " + line, false);
        }
    }

    static int tell(SideBySide x, int d, String text) {
        x.row(d, 0, text.length());
        for (int i = 0; i < text.length(); i++) {
            x.put(d, i, text.charAt(i));
        }
        return x.court(d);
    }

    private static void everyTestIsTold(String readme) throws Exception {
        try (var files = Files.list(Path.of("src/test/java"))) {
            files.map(f -> f.getFileName().toString().replace(".java", "")).filter(f -> f.endsWith("Test"))
                .forEach(f -> check.dueTrue(f + " is told in README.md", readme.contains("`" + f + "`")));
        }
    }
}
