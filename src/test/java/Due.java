/** Counts the calls whose answer is not the one that is due, and tells them. */
final class Due {
    private final String name;
    private int asked = 0;
    private int wrong = 0;

    Due(String name) {
        this.name = name;
    }

    void is(String call, long got, long want) {
        asked++;
        if (got == want) return;
        wrong++;
        if (wrong <= 50) System.out.println(name + ": " + call + " answered " + got + ", due is " + want);
    }

    void is(String call, boolean got, boolean want) {
        is(call, got ? 1 : 0, want ? 1 : 0);
    }

    int wrong() {
        return wrong;
    }

    void close() {
        System.out.println(name + ": " + asked + " answers, " + wrong + " not as due");
        if (wrong != 0) System.exit(1);
    }

    /** The text comes on an empty tape in twenties, is cut to its length and told as text k. */
    static int tell(PorchHours x, int k, String text) {
        write(x, text);
        return x.text(k);
    }

    static void write(PorchHours x, String text) {
        for (int at = 0; at < text.length(); at += 20) {
            x.feed(word(text, at), word(text, at + 4), word(text, at + 8), word(text, at + 12), word(text, at + 16));
        }
        x.end(text.length());
    }

    /** Four bytes of a text as a number, the highest first; blanks behind its end. */
    static int word(String text, int at) {
        int word = 0;
        for (int i = at; i < at + 4; i++) word = word << 8 | (i < text.length() ? text.charAt(i) & 255 : 32);
        return word;
    }
}
