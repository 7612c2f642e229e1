import java.util.Random;

/**
 * Holds the class against the Model: runs of calls by fixed seeds, each answer of both compared.
 * Every fourth argument or so is one that can't be.
 */
public final class DriveTest {
    private static final int MOST_CALLS = 512;

    private final Random random;
    private final Due due;
    private final String run;
    private final PorchHours x = new PorchHours();
    private final Model m = new Model();
    private int calls = 0;

    private DriveTest(Due due, String run, long seed) {
        this.due = due;
        this.run = run;
        random = new Random(seed);
    }

    public static void main(String[] args) {
        Due due = new Due("DriveTest");
        for (int seed = 0; seed < 1200; seed++) new DriveTest(due, "street " + seed, seed).street();
        for (int seed = 0; seed < 150; seed++) new DriveTest(due, "thought " + seed, 90000 + seed).thought();
        for (int seed = 0; seed < 400; seed++) new DriveTest(due, "texts " + seed, 50000 + seed).texts();
        due.close();
    }

    private void is(String call, long got, long want) {
        calls++;
        due.is(run + ", call " + calls + ": " + call, got, want);
    }

    private void is(String call, boolean got, boolean want) {
        is(call, got ? 1 : 0, want ? 1 : 0);
    }

    private int to(int n) {
        return random.nextInt(n);
    }

    private boolean oneOf(int n) {
        return to(n) == 0;
    }

    private int from(int a, int b) {
        return a + to(b - a + 1);
    }

    private static final int[] ODD = {-1, -2, 100, 1000, Integer.MAX_VALUE, Integer.MIN_VALUE};

    /** Within these bounds, now and then just beside them or far off. */
    private int arg(int a, int b) {
        int how = to(40);
        if (how == 0) return a - 1;
        if (how == 1) return b + 1;
        if (how == 2) return ODD[to(ODD.length)];
        if (how == 3) return a;
        if (how == 4) return b;
        return from(a, b);
    }

    private int porch() {
        return arg(0, Math.max(0, m.world.porches.size() - 1));
    }

    private int person() {
        return arg(0, Math.max(0, m.world.persons.size() - 1));
    }

    // ---- the street

    private void street() {
        int porches = from(0, 5);
        int persons = from(0, 8);
        if (oneOf(5)) {
            porches = from(6, 13);
            persons = from(9, 21);
        }
        for (int i = 0; i < porches; i++) addPorch();
        for (int i = 0; i < persons; i++) addPerson();
        int state = random.nextInt();
        is("state", x.state(state), m.state(state));
        boolean quiet = oneOf(2);
        while (calls < 300) {
            if (oneOf(quiet ? 60 : 12)) tellSomething();
            else goOn();
            if (oneOf(3)) observe();
        }
        observeAll();
        while (calls < MOST_CALLS - 60) {
            goOn();
            observe();
        }
        readBook();
    }

    private void addPorch() {
        int chairs = arg(1, 6);
        int lamp = oneOf(2) ? arg(0, 99) : from(0, 8);
        is("porch(" + chairs + ", " + lamp + ")", x.porch(chairs, lamp), m.porch(chairs, lamp));
    }

    private void addPerson() {
        int tongue = arg(0, 9);
        int ears = arg(0, 9);
        is("person(" + tongue + ", " + ears + ")", x.person(tongue, ears), m.person(tongue, ears));
    }

    private void tellSomething() {
        switch (to(14)) {
            case 0: addPorch(); break;
            case 1: addPerson(); break;
            case 2: case 3: case 4: case 5: case 6: case 7: case 8: tellText(to(4)); break;
            case 9: {
                int v = random.nextInt();
                is("state(" + v + ")", x.state(v), m.state(v));
                break;
            }
            case 10: case 11: {
                int what = arg(0, 3);
                int who = what < 2 ? porch() : person();
                int v = what == 0 ? arg(40, 99) : what == 1 ? arg(-1, m.world.persons.size()) : arg(0, 9);
                is("set(" + what + ", " + who + ", " + v + ")", x.set(what, who, v), m.set(what, who, v));
                break;
            }
            default: {
                boolean taken = oneOf(2);
                is("image(" + taken + ")", x.image(taken), m.image(taken));
            }
        }
    }

    private void goOn() {
        int how = to(20);
        if (how < 5) {
            int n = oneOf(5) ? arg(1, 60) : from(1, 4);
            is("minutes(" + n + ")", x.minutes(n), m.minutes(n));
        } else if (how < 13) {
            int what = oneOf(3) ? arg(1, 3) : 0;
            int who = what < 2 ? person() : porch();
            int v = what == 0 ? porch() : oneOf(3) ? arg(0, 99) : arg(0, 4);
            is("act(" + what + ", " + who + ", " + v + ")", x.act(what, who, v), m.act(what, who, v));
        } else if (how < 15) {
            is("undo()", x.undo(), m.undo());
        } else if (how < 17) {
            int n = arg(1, 60);
            int what = arg(0, 3);
            is("goes(" + n + ", " + what + ")", x.goes(n, what), m.goes(n, what));
        } else if (how < 18) {
            int who = person();
            is("soonest(" + who + ")", x.soonest(who), m.soonest(who));
        } else if (how < 19) {
            int who = porch();
            int what = arg(0, 2);
            is("last(" + who + ", " + what + ")", x.last(who, what), m.last(who, what));
        } else {
            int period = arg(1, 30);
            is("chair(" + period + ", 0)", x.chair(period, 0), m.chair(period, 0));
        }
    }

    private void observe() {
        int a = porch();
        int b = person();
        int what = oneOf(2) ? arg(0, 5) : 10 + porch();
        switch (to(5)) {
            case 0: is("porchOf(" + a + ", " + what + ")", x.porchOf(a, what), m.porchOf(a, what)); break;
            case 1: {
                what = arg(0, 7);
                is("of(" + b + ", " + what + ")", x.of(b, what), m.of(b, what));
                break;
            }
            case 2: is("hears(" + b + ", " + a + ")", x.hears(b, a), m.hears(b, a)); break;
            case 3: {
                what = arg(0, 13);
                is("look(" + what + ")", x.look(what), m.look(what));
                break;
            }
            default: {
                int i = arg(0, m.world.book.size());
                what = arg(0, 4);
                is("book(" + i + ", " + what + ")", x.book(i, what), m.book(i, what));
            }
        }
    }

    private void observeAll() {
        for (int i = 0; i <= 13; i++) is("look(" + i + ")", x.look(i), m.look(i));
        for (int i = 0; i < 4; i++) {
            for (int w = 1; w <= 5; w++) is("porchOf(" + i + ", " + w + ")", x.porchOf(i, w), m.porchOf(i, w));
            for (int w = 2; w <= 7; w++) is("of(" + i + ", " + w + ")", x.of(i, w), m.of(i, w));
        }
    }

    private void readBook() {
        int from = Math.max(0, m.world.book.size() - 11);
        for (int i = from; i < from + 11; i++) {
            for (int w = 0; w < 5; w++) is("book(" + i + ", " + w + ")", x.book(i, w), m.book(i, w));
        }
    }

    // ---- texts

    private void texts() {
        for (int i = from(1, 12); i > 0; i--) addPorch();
        for (int i = from(1, 20); i > 0; i--) addPerson();
        if (oneOf(2)) is("act(0, 0, 0)", x.act(0, 0, 0), m.act(0, 0, 0));
        while (calls < MOST_CALLS - 90) {
            tellText(to(4));
            for (int i = 0; i < 4; i++) observe();
        }
        is("minutes(60)", x.minutes(60), m.minutes(60));
        is("goes(60, 0)", x.goes(60, 0), m.goes(60, 0));
        readBook();
    }

    private void tellText(int k) {
        StringBuilder text = new StringBuilder();
        int lines = oneOf(10) ? from(15, 18) : from(0, 6);
        for (int i = 0; i < lines; i++) {
            String line = line(k, lines > 10);
            if (text.length() + line.length() < 400) text.append(line);
        }
        if (oneOf(4) && text.length() > 0) spoil(text);
        if (text.length() > 400) text.setLength(400);
        for (int at = 0; at < text.length(); at += 20) {
            int a = Due.word(text.toString(), at);
            int b = Due.word(text.toString(), at + 4);
            int c = Due.word(text.toString(), at + 8);
            int d = Due.word(text.toString(), at + 12);
            int e = Due.word(text.toString(), at + 16);
            is("feed", x.feed(a, b, c, d, e), m.feed(a, b, c, d, e));
        }
        is("end", x.end(text.length()), m.end(text.length()));
        int told = oneOf(60) ? arg(0, 3) : k;
        is("text(" + told + ") of " + text, x.text(told), m.text(told));
        is("fault(0)", x.fault(0), m.fault(0));
        is("fault(1)", x.fault(1), m.fault(1));
    }

    private void spoil(StringBuilder text) {
        int at = to(text.length());
        String signs = "; +-*/()<=>.0123456789az\n\t";
        char sign = oneOf(8) ? (char) to(256) : signs.charAt(to(signs.length()));
        switch (to(5)) {
            case 0: text.setCharAt(at, sign); break;
            case 1: text.insert(at, sign); break;
            case 2: text.deleteCharAt(at); break;
            case 3: text.setLength(at); break;
            default: {
                String[] words = {" speaks ", " when ", " and ", " or ", " not ", " ( ", " ) ", " person ", " porch ",
                    " oil ", " tongue ", " in ", " 0 ", " 7 ", " 0017 ", ";;", "Hears", "speakshears", " 99999 "};
                text.insert(at, words[to(words.length)]);
            }
        }
    }

    private String line(int k, boolean brief) {
        if (k == 0) return brief ? "spins " + to(12) + ";" : lawLine();
        if (k == 1) {
            return "person " + personOf() + " at " + (oneOf(2) ? from(0, 59) : from(0, 12)) + " on " + porchOf() + " for "
                + (oneOf(2) ? from(1, 60) : from(1, 5)) + ";";
        }
        if (k == 2) {
            String in = "in " + from(0, brief ? 2 : 4) + " ";
            switch (to(4)) {
                case 0: return in + "oil " + porchOf() + " " + from(0, 20) + ";";
                case 1: return in + "sweep " + porchOf() + ";";
                case 2: return in + "rain " + from(0, 59) + ";";
                default: return in + "master " + porchOf() + " " + personOf() + ";\n";
            }
        }
        return "porch " + porchOf() + " by " + porchOf() + " " + (oneOf(3) ? from(1, 99) : from(1, 14)) + ";";
    }

    private int porchOf() {
        return to(Math.max(1, m.world.porches.size()));
    }

    private int personOf() {
        return to(Math.max(1, m.world.persons.size()));
    }

    private String lawLine() {
        String[] words = {"speaks ", "speaks ", "hears ", "hears ", "spins "};
        String line = words[to(words.length)] + sum(3) + (oneOf(3) ? "" : " when " + either(to(4)));
        return line + (oneOf(3) ? ";\n" : ";");
    }

    private String either(int depth) {
        StringBuilder b = new StringBuilder(both(depth));
        while (oneOf(3)) b.append(" or ").append(both(depth));
        return b.toString();
    }

    private String both(int depth) {
        StringBuilder b = new StringBuilder(condition(depth));
        while (oneOf(3)) b.append(" and ").append(condition(depth));
        return b.toString();
    }

    private String condition(int depth) {
        if (depth > 0 && oneOf(2)) {
            if (oneOf(2)) return "not " + condition(depth - 1);
            return "(" + either(depth - 1) + ")";
        }
        if (oneOf(40)) return "not ".repeat(to(10)) + "(".repeat(to(10)) + "1=1" + ")".repeat(to(10));
        return sum(2) + "<=>".charAt(to(3)) + sum(2);
    }

    private String sum(int most) {
        StringBuilder b = new StringBuilder(product());
        for (int i = to(most); i > 0; i--) b.append(oneOf(2) ? "+" : "-").append(product());
        return b.toString();
    }

    private String product() {
        StringBuilder b = new StringBuilder(unit());
        while (oneOf(3)) {
            if (oneOf(2)) b.append("*").append(unit());
            else b.append(" / ").append(oneOf(20) ? 0 : from(1, 9));
        }
        return b.toString();
    }

    private String unit() {
        String[] nouns = {"tongue", "ears", "sitting", "stayed", "lamp", "cobweb", "minute", "said", "heard", "evening"};
        if (oneOf(2)) return nouns[to(nouns.length)];
        return "" + (oneOf(3) ? from(0, 9999) : oneOf(2) ? from(0, 9) : from(100, 1000));
    }

    // ---- the thoughts

    private void thought() {
        while (calls < MOST_CALLS) {
            switch (to(20)) {
                case 0: wish(); break;
                case 1: {
                    int s = arg(-1, 1);
                    int i = s == -1 ? 0 : arg(0, 4);
                    int a = s == -1 ? 0 : arg(0, 1);
                    is("matched(" + s + ", " + i + ", " + a + ")", x.matched(s, i, a), m.matched(s, i, a));
                    break;
                }
                case 2: {
                    int period = oneOf(9) ? -1 : arg(1, 30);
                    int first = arg(0, Math.max(0, Math.min(29, period - 1)));
                    is("chair(" + period + ", " + first + ")", x.chair(period, first), m.chair(period, first));
                    break;
                }
                case 3: {
                    int what = arg(0, 1);
                    is("rocks(" + what + ")", x.rocks(what), m.rocks(what));
                    break;
                }
                case 4: {
                    int from = oneOf(20) ? -1 : arg(0, 7);
                    int to = arg(0, 7);
                    int at = from(0, 99);
                    int times = oneOf(10) ? arg(0, 9999) : 100 * at + from(at, 99);
                    is("cat(" + from + ", " + to + ", " + times + ")", x.cat(from, to, times), m.cat(from, to, times));
                    break;
                }
                case 5: {
                    int p = arg(0, 7);
                    int at = oneOf(2) ? arg(0, 99) : from(0, 30);
                    int q = arg(0, 7);
                    is("reply(" + p + ", " + at + ", " + q + ")", x.reply(p, at, q), m.reply(p, at, q));
                    break;
                }
                case 6: {
                    int v = oneOf(12) ? -1 : arg(1, 9);
                    is("family(" + v + ")", x.family(v), m.family(v));
                    break;
                }
                case 7: {
                    int c = arg(1, 30);
                    int k = oneOf(2) ? -1 : arg(1, 4);
                    is("storm(" + c + ", " + k + ")", x.storm(c, k), m.storm(c, k));
                    break;
                }
                case 8: {
                    int v = oneOf(14) ? -1 : oneOf(2) ? arg(0, 99) : from(0, 4);
                    is("board(" + v + ")", x.board(v), m.board(v));
                    break;
                }
                case 9: {
                    int what = arg(0, 1);
                    is("level(" + what + ")", x.level(what), m.level(what));
                    break;
                }
                case 10: {
                    int v = oneOf(20) ? -1 : arg(0, 2);
                    is("talk(" + v + ")", x.talk(v), m.talk(v));
                    break;
                }
                case 11: {
                    int what = oneOf(2) ? arg(0, 1) : arg(10, 25);
                    is("talks(" + what + ")", x.talks(what), m.talks(what));
                    break;
                }
                case 12: tellHalves(); break;
                case 13: {
                    int which = arg(0, 2);
                    int word = arg(-1, 9);
                    is("half(" + which + ", " + word + ")", x.half(which, word), m.half(which, word));
                    break;
                }
                case 14: {
                    int w = oneOf(12) ? -1 : arg(1, 60);
                    is("swing(" + w + ")", x.swing(w), m.swing(w));
                    break;
                }
                case 15: {
                    int what = arg(0, 1);
                    is("swings(" + what + ")", x.swings(what), m.swings(what));
                    break;
                }
                case 16: {
                    int a = oneOf(12) ? -1 : arg(0, 7);
                    int b = arg(0, 7);
                    is("quarrel(" + a + ", " + b + ")", x.quarrel(a, b), m.quarrel(a, b));
                    break;
                }
                case 17: {
                    int n = oneOf(6) ? arg(1, 8) : from(1, 6);
                    int what = arg(0, 1);
                    is("seated(" + n + ", " + what + ")", x.seated(n, what), m.seated(n, what));
                    break;
                }
                case 18: {
                    int n = arg(0, 40);
                    int paces = arg(0, 31);
                    int what = arg(0, 1);
                    is("steps(" + n + ", " + paces + ", " + what + ")", x.steps(n, paces, what), m.steps(n, paces, what));
                    int a = arg(1, 200);
                    int b = oneOf(2) ? arg(1, 200) : arg(1, 20);
                    is("game(" + a + ", " + b + ")", x.game(a, b), m.game(a, b));
                    break;
                }
                default: {
                    int a = arg(1, 12);
                    int b = arg(1, 12);
                    int c = arg(1, 12);
                    int q = arg(0, 12);
                    is("lamps(" + a + ", " + b + ", " + c + ", " + q + ")", x.lamps(a, b, c, q), m.lamps(a, b, c, q));
                    hang();
                }
            }
        }
    }

    private void wish() {
        for (int i = 0; i < 3; i++) {
            StringBuilder order = new StringBuilder("01234");
            for (int j = 0; j < 5; j++) {
                int k = to(5);
                char c = order.charAt(j);
                order.setCharAt(j, order.charAt(k));
                order.setCharAt(k, c);
            }
            if (oneOf(10)) order.setCharAt(to(5), (char) ('0' + to(10)));
            int side = arg(0, 1);
            int who = arg(0, 4);
            int number = oneOf(30) ? -Integer.parseInt(order.toString()) : Integer.parseInt(order.toString());
            is("wishes(" + side + ", " + who + ", " + number + ")", x.wishes(side, who, number), m.wishes(side, who, number));
        }
    }

    /** Two talks of few words and one that is often woven of them. */
    private void tellHalves() {
        if (calls > MOST_CALLS - 60) return;
        for (int i = 0; i < 3; i++) is("half(" + i + ", -1)", x.half(i, -1), m.half(i, -1));
        int a = from(0, 12);
        int b = from(0, 12);
        int words = from(1, 3);
        while (a + b > 0) {
            int which = to(a + b) < a ? 0 : 1;
            if (which == 0) a--;
            else b--;
            int word = to(words);
            is("half(" + which + ", " + word + ")", x.half(which, word), m.half(which, word));
            int heard = oneOf(60) ? to(words) : word;
            is("half(2, " + heard + ")", x.half(2, heard), m.half(2, heard));
        }
        is("halves(0)", x.halves(0), m.halves(0));
        is("halves(1)", x.halves(1), m.halves(1));
    }

    private void hang() {
        int n = oneOf(20) ? from(1, 9) : from(1, 7);
        StringBuilder row = new StringBuilder();
        for (int i = 0; i < n; i++) row.insert(to(row.length() + 1), (char) ('0' + i));
        if (oneOf(10)) row.setCharAt(to(n), (char) ('0' + to(10)));
        int number = Integer.parseInt((oneOf(30) ? "2" : "1") + row.substring(0, Math.min(n, 8)));
        if (n == 9 && oneOf(2)) number = 1000000000 + Integer.parseInt(row.toString());
        int what = arg(0, 2);
        is("hooks(" + number + ", " + what + ")", x.hooks(number, what), m.hooks(number, what));
    }
}
