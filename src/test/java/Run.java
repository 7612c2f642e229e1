import java.lang.reflect.InvocationTargetException;
import java.lang.reflect.Method;
import java.lang.reflect.Modifier;
import java.util.HashMap;
import java.util.Map;

/**
 * A run of calls on a new object, told as texts: "porch(1, 99) => 0", with or without the answer that is due.
 * NONE, MIN and MAX stand for their numbers. "LAW: spins 1; => 1" writes a text on the TAPE and tells it, so do CALLS,
 * EVENINGS and STREET; "TAPE: spins" writes it alone. A run of more than 512 calls is a fault of the test.
 */
final class Run {
    private static final int MOST_CALLS = 512;
    private static final String[] TEXTS = {"LAW: ", "CALLS: ", "EVENINGS: ", "STREET: "};
    private static final Map<String, Method> FACE = new HashMap<>();

    static {
        for (Method m : PorchHours.class.getDeclaredMethods()) {
            if (Modifier.isPublic(m.getModifiers())) FACE.put(m.getName(), m);
        }
    }

    private final Due due;
    private final String sentence;
    private final PorchHours x = new PorchHours();
    private int calls = 0;

    Run(Due due, String sentence) {
        this.due = due;
        this.sentence = sentence;
    }

    int calls() {
        return calls;
    }

    Run does(String... steps) {
        for (String step : steps) {
            int arrow = step.lastIndexOf(" => ");
            long got = answer(arrow < 0 ? step : step.substring(0, arrow));
            if (arrow >= 0) due.is(sentence + ": " + step, got, number(step.substring(arrow + 4)));
        }
        return this;
    }

    Run times(int n, String step) {
        for (int i = 0; i < n; i++) does(step);
        return this;
    }

    /** A boolean counts 1 or 0. */
    long answer(String step) {
        if (step.startsWith("TAPE: ")) return write(step.substring(6));
        for (int k = 0; k < TEXTS.length; k++) {
            if (!step.startsWith(TEXTS[k])) continue;
            write(step.substring(TEXTS[k].length()));
            return answer("text(" + k + ")");
        }
        calls++;
        if (calls > MOST_CALLS) due.is(sentence + ": calls", calls, MOST_CALLS);
        return invoke(step);
    }

    private long write(String text) {
        calls += (text.length() + 19) / 20 + 1;
        Due.write(x, text);
        return text.length();
    }

    private long invoke(String step) {
        int open = step.indexOf('(');
        Method m = FACE.get(step.substring(0, Math.max(0, open)));
        if (m == null || !step.endsWith(")")) throw new IllegalArgumentException("no call: " + step);
        String inside = step.substring(open + 1, step.length() - 1);
        String[] words = inside.isEmpty() ? new String[0] : inside.split(", ");
        Object[] given = new Object[words.length];
        for (int i = 0; i < words.length; i++) {
            given[i] = m.getParameterTypes()[i] == boolean.class ? (Object) Boolean.valueOf(words[i]) : (Object) number(words[i]);
        }
        try {
            Object got = m.invoke(x, given);
            return got instanceof Boolean ? ((Boolean) got ? 1 : 0) : (Integer) got;
        } catch (IllegalAccessException e) {
            throw new IllegalStateException(e);
        } catch (InvocationTargetException e) {
            due.is(sentence + ": " + step + " threw " + e.getCause(), 1, 0);
            return Long.MIN_VALUE;
        }
    }

    private static int number(String word) {
        switch (word) {
            case "NONE": return PorchHours.NONE;
            case "MIN": return Integer.MIN_VALUE;
            case "MAX": return Integer.MAX_VALUE;
            case "true": return 1;
            case "false": return 0;
            default: return Integer.parseInt(word);
        }
    }
}
