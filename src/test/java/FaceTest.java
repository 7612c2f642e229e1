import java.lang.reflect.Constructor;
import java.lang.reflect.Field;
import java.lang.reflect.Method;
import java.lang.reflect.Modifier;
import java.nio.file.Files;
import java.nio.file.Path;
import java.util.Arrays;
import java.util.List;
import java.util.Set;
import java.util.TreeSet;
import java.util.regex.Matcher;
import java.util.regex.Pattern;

/** The public face is the document's and no more, and the source keeps to what LANGUAGE.md lets be seen from outside. */
public final class FaceTest {
    private static final Due due = new Due("FaceTest");

    private static final String FACE = "int state(int) int porch(int,int) int person(int,int) boolean set(int,int,int) "
        + "boolean act(int,int,int) int minutes(int) int feed(int,int,int,int,int) boolean end(int) int text(int) int fault(int) "
        + "int porchOf(int,int) int of(int,int) int hears(int,int) int book(int,int) int goes(int,int) int soonest(int) "
        + "boolean wishes(int,int,int) int matched(int,int,int) int chair(int,int) int rocks(int) int cat(int,int,int) "
        + "int reply(int,int,int) int family(int) int storm(int,int) int board(int) int level(int) int talk(int) int talks(int) "
        + "int half(int,int) int halves(int) int swing(int) int swings(int) int quarrel(int,int) int seated(int,int) "
        + "int last(int,int) int steps(int,int,int) int lamps(int,int,int,int) int hooks(int,int) int game(int,int) "
        + "boolean undo() boolean image(boolean) int look(int)";

    public static void main(String[] args) throws Exception {
        members();
        classes();
        source(Files.readString(Path.of("src/main/java/PorchHours.java")));
        due.close();
    }

    private static void members() {
        Class<?> c = PorchHours.class;
        due.is("the class is public and final", Modifier.isPublic(c.getModifiers()) && Modifier.isFinal(c.getModifiers()), true);
        Constructor<?>[] made = c.getDeclaredConstructors();
        due.is("one constructor, public, of nothing", made.length == 1 && Modifier.isPublic(made[0].getModifiers())
            && made[0].getParameterCount() == 0, true);
        Set<String> want = new TreeSet<>(Arrays.asList(FACE.replace(") ", ")\n").split("\n")));
        Set<String> names = new TreeSet<>();
        Set<String> got = new TreeSet<>();
        for (Method m : c.getDeclaredMethods()) {
            if (Modifier.isPrivate(m.getModifiers())) continue;
            names.add(m.getName());
            String types = Arrays.toString(m.getParameterTypes()).replaceAll("[\\[\\] ]", "");
            got.add(m.getReturnType() + " " + m.getName() + "(" + types + ")");
            due.is(m + " is public and of the object", m.getModifiers(), Modifier.PUBLIC);
        }
        if (!got.equals(want)) System.out.println("FaceTest: the face is " + got);
        due.is("the methods are the document's", got.equals(want), true);
        for (Method m : c.getDeclaredMethods()) {
            if (Modifier.isPrivate(m.getModifiers())) due.is(m + " has a public one's name", names.contains(m.getName()), false);
        }
        for (Field f : c.getDeclaredFields()) {
            boolean none = f.getName().equals("NONE");
            due.is(f + " is private, but for NONE", Modifier.isPrivate(f.getModifiers()), !none);
            if (Modifier.isStatic(f.getModifiers())) due.is(f + " is final", Modifier.isFinal(f.getModifiers()), true);
        }
        due.is("NONE", PorchHours.NONE, -1);
    }

    private static void classes() {
        Class<?>[] inside = PorchHours.class.getDeclaredClasses();
        due.is("some twelve classes", inside.length + 1 <= 12, true);
        for (Class<?> c : inside) {
            due.is(c + " is static", Modifier.isStatic(c.getModifiers()), true);
            due.is(c + " is not public or protected", (c.getModifiers() & (Modifier.PUBLIC | Modifier.PROTECTED)) == 0, true);
            int fields = 0;
            for (Field f : c.getDeclaredFields()) {
                if (!Modifier.isStatic(f.getModifiers())) fields++;
                else due.is(f + " is final", Modifier.isFinal(f.getModifiers()), true);
            }
            due.is(c + " has some twenty fields", fields <= 20, true);
            for (Method m : c.getDeclaredMethods()) {
                due.is(m + " has seven parameters at most", m.getParameterCount() <= 7, true);
                due.is(m + " has a name of the face", FACE.contains(" " + m.getName() + "("), false);
            }
        }
    }

    private static void source(String whole) {
        String code = whole.replaceAll("(?s)/\\*.*?\\*/", " ").replaceAll("//[^\n]*", " ");
        String bare = code.replaceAll("\"[^\"\n]*\"", "\"\"").replaceAll("'[^'\n]*'", "' '");
        List<String> forbidden = List.of("throw", "throws", "try", "catch", "finally", "synchronized", "assert", "native",
            "transient", "volatile", "instanceof", "package", "Object", "System\\.(?!arraycopy)\\w+", "Math\\.\\w+Exact",
            "equals", "hashCode", "toString", "lambda", "record", "var", "float", "double", "char\\[\\]");
        for (String word : forbidden) due.is("the word " + word, Pattern.compile("\\b" + word + "\\b").matcher(bare).find(), false);
        for (String sign : List.of("->", "::", "static {", "@")) due.is("the sign " + sign, bare.contains(sign), false);
        due.is("one library class", bare.replaceAll("(?s)import java\\.util\\.Arrays;", "").contains("import"), false);
        Matcher library = Pattern.compile("\\b(Arrays|Math|Integer|Long|System|String)\\.(\\w+)").matcher(bare);
        List<String> known = List.of("Arrays.fill", "Math.max", "Math.min", "Math.abs", "Integer.bitCount", "System.arraycopy");
        while (library.find()) due.is("of the library: " + library.group(), known.contains(library.group()), true);
        for (int i = 0; i < whole.length(); i++) {
            if (whole.charAt(i) > 126) due.is("the sign at " + i, whole.charAt(i), ' ');
        }
        lengths(whole);
    }

    /** Methods stay below sixty lines, lines below some width. */
    private static void lengths(String whole) {
        int start = -1;
        String[] lines = whole.split("\n");
        for (int i = 0; i < lines.length; i++) {
            due.is("the width of line " + (i + 1), lines[i].length() <= 130, true);
            if (lines[i].matches(" {4}( {4})?[a-zA-Z].*\\) \\{")) start = i;
            if (!lines[i].matches(" {4}( {4})?\\}") || start < 0) continue;
            due.is("the lines of the method at line " + (start + 1), i - start <= 60, true);
            start = -1;
        }
    }
}
