import java.lang.reflect.Method;
import java.lang.reflect.Modifier;
import java.nio.file.Files;
import java.nio.file.Path;
import java.util.regex.Matcher;
import java.util.regex.Pattern;

/** README.md tells of each method by a line of its own; its examples answer what it says, its texts can be told. */
public final class ReadmeTest {
    private static final Due due = new Due("ReadmeTest");
    private static final String[] TEXTS = {"LAW", "CALLS", "EVENINGS", "STREET"};
    private static final Pattern EXAMPLE = Pattern.compile("(.*); +// => (\\S+).*");
    private static final Pattern TOLD = Pattern.compile("tell\\(x, (\\d), \"(.*)\"\\)");

    public static void main(String[] args) throws Exception {
        String page = Files.readString(Path.of("README.md"));
        methods(page);
        examples(page);
        lines(page);
        helper(page, Files.readString(Path.of("src/test/java/ReadmeTest.java")));
        tests(page);
        due.close();
    }

    private static void methods(String page) {
        for (Method m : PorchHours.class.getDeclaredMethods()) {
            if (!Modifier.isPublic(m.getModifiers())) continue;
            String arguments = "\\w+" + ", \\w+".repeat(Math.max(0, m.getParameterCount() - 1));
            if (m.getParameterCount() == 0) arguments = "";
            Pattern line = Pattern.compile("(?m)^\\| `" + m.getName() + "\\(" + arguments + "\\)` \\| .+ \\|$");
            due.is("a line for " + m, line.matcher(page).results().count(), 1);
        }
    }

    private static void examples(String page) {
        int answers = 0;
        for (String block : blocks(page)) {
            Run r = new Run(due, "an example");
            for (String line : block.split("\n")) {
                Matcher example = EXAMPLE.matcher(line);
                if (!example.matches()) continue;
                r.does(step(example.group(1)) + " => " + example.group(2));
                answers++;
            }
        }
        due.is("answers that README.md tells", answers > 25, true);
    }

    /** The lines that it shows of each text are told as one text. */
    private static void lines(String page) {
        for (int k = 0; k < TEXTS.length; k++) {
            Matcher row = Pattern.compile("(?m)^\\| " + k + " \\| the [^|]+\\| (.*) \\|$").matcher(page);
            due.is("a line for text " + k, row.find(), true);
            StringBuilder text = new StringBuilder();
            int lines = 0;
            Matcher line = Pattern.compile("`([^`]+;)`").matcher(row.group(1));
            for (; line.find(); lines++) text.append(line.group(1));
            due.is("lines of text " + k, lines > 0, true);
            new Run(due, "shown by README.md").does("porch(1, 0)", "porch(1, 0)", "person(0, 0)",
                TEXTS[k] + ": " + text + " => " + lines);
        }
    }

    private static String[] blocks(String page) {
        return Pattern.compile("(?s)```java\n(.*?)```").matcher(page).results().map(b -> b.group(1)).toArray(String[]::new);
    }

    /** As Run has it. */
    private static String step(String call) {
        Matcher told = TOLD.matcher(call);
        if (told.matches()) return TEXTS[Integer.parseInt(told.group(1))] + ": " + told.group(2);
        return call.replaceFirst("x\\.", "");
    }

    /** What README.md shows is what stands here, and it tells a text as it should. */
    private static void helper(String page, String here) {
        boolean stands = false;
        for (String block : blocks(page)) {
            String inside = "    private " + block.replace("\n", "\n    ").stripTrailing();
            if (block.startsWith("static int tell(")) stands = here.contains(inside);
        }
        due.is("tell as README.md shows it", stands, true);
        String line = "spins 1 when 1<tongue;";
        for (int length = 0; length <= 400; length++) {
            String text = line.repeat(length / 22 + 1).substring(0, length);
            PorchHours one = new PorchHours();
            PorchHours other = new PorchHours();
            due.is("tell " + length, tell(one, 0, text), Due.tell(other, 0, text));
            due.is("tell " + length + ", the fault", one.fault(0), other.fault(0));
            due.is("tell " + length + ", its place", one.fault(1), other.fault(1));
        }
    }

    /** Each of the project's tests has a line, too. */
    private static void tests(String page) throws Exception {
        String[] names = Path.of("src/test/java").toFile().list();
        due.is("the tests' folder is read", names != null, true);
        if (names == null) return;
        for (String name : names) {
            if (name.endsWith("Test.java")) due.is("a line for " + name, page.contains("| `" + name.replace(".java", "") + "` |"), true);
        }
    }

    private static int tell(PorchHours x, int k, String text) {
        int[] five = new int[5];
        for (int from = 0; from < text.length(); from += 20) {
            for (int i = 0; i < 20; i++) {
                int sign = from + i < text.length() ? text.charAt(from + i) : ' ';
                five[i / 4] = five[i / 4] << 8 | sign;
            }
            x.feed(five[0], five[1], five[2], five[3], five[4]);
        }
        x.end(text.length());
        return x.text(k);
    }
}
