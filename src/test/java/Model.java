import java.util.ArrayDeque;
import java.util.ArrayList;
import java.util.Arrays;
import java.util.Deque;
import java.util.HashMap;
import java.util.HashSet;
import java.util.List;
import java.util.Map;
import java.util.Set;
import java.util.regex.Matcher;
import java.util.regex.Pattern;

/**
 * The document told a second time, in other ways and without thrift, to hold the class against:
 * trees for the law, whole copies for what can be undone, and all ways tried out for the thoughts.
 */
final class Model {
    static final int NONE = -1;

    static final class Porch {
        int chairs;
        int lamp;
        int cobweb = 0;
        int master = NONE;

        Porch copy() {
            Porch p = new Porch();
            p.chairs = chairs;
            p.lamp = lamp;
            p.cobweb = cobweb;
            p.master = master;
            return p;
        }
    }

    static final class Person {
        int tongue;
        int ears;
        int sits = NONE;
        int stayed = 0;
        int until = 0;
        int said = 0;
        int heard = 0;
        int accepted = NONE;

        Person copy() {
            Person p = new Person();
            p.tongue = tongue;
            p.ears = ears;
            p.sits = sits;
            p.stayed = stayed;
            p.until = until;
            p.said = said;
            p.heard = heard;
            p.accepted = accepted;
            return p;
        }

        void rise() {
            sits = NONE;
            stayed = 0;
        }
    }

    static final class World {
        List<Porch> porches = new ArrayList<>();
        List<Person> persons = new ArrayList<>();
        int state = 0;
        int minute = 0;
        int evening = 0;
        int swept = 0;
        List<int[]> book = new ArrayList<>();

        World copy() {
            World w = new World();
            for (Porch p : porches) w.porches.add(p.copy());
            for (Person p : persons) w.persons.add(p.copy());
            w.state = state;
            w.minute = minute;
            w.evening = evening;
            w.swept = swept;
            w.book.addAll(book);
            return w;
        }

        int sitting(int porch) {
            int n = 0;
            for (Person p : persons) if (p.sits == porch) n++;
            return n;
        }
    }

    interface Node {
        int value(World w, Person person, int porch);
    }

    static final class LawLine {
        String word;
        Node value;
        Node when;
    }

    static final class Fault extends Exception {
        private static final long serialVersionUID = 1L;
        final int kind;
        final int place;

        Fault(int kind, int place) {
            this.kind = kind;
            this.place = place;
        }
    }

    /** The four texts, each replaced as a whole, and the rows for thought. */
    static final class Told {
        List<LawLine> law = List.of();
        List<int[]> calls = List.of();
        List<String[]> evenings = List.of();
        List<int[]> street = List.of();
        int[][] wishes = new int[10][];
        List<int[]> chairs = new ArrayList<>();
        List<int[]> ways = new ArrayList<>();
        List<Integer> families = new ArrayList<>();
        List<Integer> boards = new ArrayList<>();
        List<Integer> words = new ArrayList<>();
        List<List<Integer>> halves = List.of(new ArrayList<>(), new ArrayList<>(), new ArrayList<>());
        List<Integer> weights = new ArrayList<>();
        List<int[]> quarrels = new ArrayList<>();

        Told copy() {
            Told t = new Told();
            t.law = law;
            t.calls = calls;
            t.evenings = evenings;
            t.street = street;
            t.wishes = wishes.clone();
            t.chairs = new ArrayList<>(chairs);
            t.ways = new ArrayList<>(ways);
            t.families = new ArrayList<>(families);
            t.boards = new ArrayList<>(boards);
            t.words = new ArrayList<>(words);
            t.halves = List.of(new ArrayList<>(halves.get(0)), new ArrayList<>(halves.get(1)), new ArrayList<>(halves.get(2)));
            t.weights = new ArrayList<>(weights);
            t.quarrels = new ArrayList<>(quarrels);
            return t;
        }
    }

    World world = new World();
    Told told = new Told();
    StringBuilder tape = new StringBuilder();
    int faultKind = 0;
    int faultPlace = NONE;
    Deque<World> undone = new ArrayDeque<>();
    World imageWorld = null;
    Told imageTold = null;

    Model() {
        for (int i = 0; i < 10; i++) told.wishes[i] = new int[] {0, 1, 2, 3, 4};
    }

    static boolean in(int v, int a, int b) {
        return a <= v && v <= b;
    }

    boolean isPorch(int p) {
        return in(p, 0, world.porches.size() - 1);
    }

    boolean isPerson(int p) {
        return in(p, 0, world.persons.size() - 1);
    }

    int state(int v) {
        int old = world.state;
        world.state = v;
        undone.clear();
        return old;
    }

    int porch(int chairs, int lamp) {
        if (!in(chairs, 1, 6) || !in(lamp, 0, 99) || world.porches.size() == 12) return NONE;
        Porch p = new Porch();
        p.chairs = chairs;
        p.lamp = lamp;
        world.porches.add(p);
        undone.clear();
        return world.porches.size() - 1;
    }

    int person(int tongue, int ears) {
        if (!in(tongue, 0, 9) || !in(ears, 0, 9) || world.persons.size() == 20) return NONE;
        Person p = new Person();
        p.tongue = tongue;
        p.ears = ears;
        world.persons.add(p);
        undone.clear();
        return world.persons.size() - 1;
    }

    boolean set(int what, int who, int v) {
        if (what == 0 && isPorch(who) && in(v, 0, 99)) world.porches.get(who).cobweb = v;
        else if (what == 1 && isPorch(who) && (v == NONE || isPerson(v))) world.porches.get(who).master = v;
        else if (what == 2 && isPerson(who) && in(v, 0, 9)) world.persons.get(who).tongue = v;
        else if (what == 3 && isPerson(who) && in(v, 0, 9)) world.persons.get(who).ears = v;
        else return false;
        undone.clear();
        return true;
    }

    void keep() {
        undone.addLast(world.copy());
        if (undone.size() > 6) undone.removeFirst();
    }

    boolean act(int what, int who, int v) {
        if (what == 0) {
            if (!isPerson(who) || !isPorch(v) || world.persons.get(who).sits != NONE) return false;
            if (world.sitting(v) >= world.porches.get(v).chairs) return false;
            keep();
            sit(world.persons.get(who), who, v, 60, true);
            return true;
        }
        if (what == 1) {
            if (!isPerson(who) || world.persons.get(who).sits == NONE) return false;
            keep();
            world.persons.get(who).rise();
            return true;
        }
        if (what == 2) {
            if (!isPorch(who)) return false;
            keep();
            sweep(who, true);
            return true;
        }
        if (what == 3) {
            if (!isPorch(who) || !in(v, 0, 99)) return false;
            keep();
            world.porches.get(who).lamp = v;
            return true;
        }
        return false;
    }

    void note(boolean indeed, int what, int who, int much) {
        if (indeed && world.book.size() < 150) world.book.add(new int[] {world.evening, world.minute, what, who, much});
    }

    void sit(Person p, int number, int porch, int until, boolean indeed) {
        p.sits = porch;
        p.stayed = 0;
        p.until = until;
        note(indeed, 0, number, porch);
    }

    void sweep(int porch, boolean indeed) {
        note(indeed, 4, porch, world.porches.get(porch).cobweb);
        world.porches.get(porch).cobweb = 0;
        world.swept++;
    }

    int law(String word, int person, int porch) {
        Person p = person == NONE ? null : world.persons.get(person);
        int most = word.equals("spins") ? 9 : 1000;
        for (LawLine l : told.law) {
            if (!l.word.equals(word)) continue;
            if (l.when == null || l.when.value(world, p, porch) == 1) {
                int v = l.value.value(world, p, porch);
                return v < 0 ? 0 : v > most ? most : v;
            }
        }
        if (word.equals("speaks")) return 60 * p.tongue;
        return word.equals("hears") ? 100 * p.ears : 1;
    }

    boolean chance(int odds, boolean indeed) {
        if (odds <= 0) return false;
        if (!indeed) return odds >= 500;
        world.state = world.state * 1664525 + 1013904223;
        return (world.state >>> 8) % 1000 < odds;
    }

    int feet(int a, int b) {
        int best = NONE;
        for (int[] s : told.street) {
            if (s[0] == a && s[1] == b || s[1] == a && s[0] == b) best = best == NONE ? s[2] : Math.min(best, s[2]);
        }
        return best;
    }

    int pass(boolean indeed) {
        World w = world;
        if (w.minute == 0) {
            for (String[] e : told.evenings) {
                if (Integer.parseInt(e[0]) != w.evening) continue;
                int a = Integer.parseInt(e[2]);
                if (e[1].equals("oil")) w.porches.get(a).lamp = Integer.parseInt(e[3]);
                if (e[1].equals("sweep")) sweep(a, indeed);
                if (e[1].equals("master")) w.porches.get(a).master = Integer.parseInt(e[3]);
            }
        }
        for (int[] c : told.calls) {
            Person p = w.persons.get(c[0]);
            if (c[1] == w.minute && p.sits == NONE && w.sitting(c[2]) < w.porches.get(c[2]).chairs) sit(p, c[0], c[2], c[3], indeed);
        }
        for (String[] e : told.evenings) {
            if (!e[1].equals("rain") || Integer.parseInt(e[0]) != w.evening || Integer.parseInt(e[2]) != w.minute) continue;
            for (Person p : w.persons) if (p.sits != NONE && w.porches.get(p.sits).cobweb > 50) p.rise();
        }
        int spoken = 0;
        for (int i = 0; i < w.persons.size(); i++) {
            Person p = w.persons.get(i);
            if (p.sits == NONE || !chance(law("speaks", i, p.sits), indeed)) continue;
            spoken++;
            p.said++;
            int hearers = 0;
            for (int j = 0; j < w.persons.size(); j++) {
                Person q = w.persons.get(j);
                if (j == i || q.sits == NONE) continue;
                if (q.sits == p.sits) {
                    q.heard++;
                    hearers++;
                } else if (feet(p.sits, q.sits) != NONE && feet(p.sits, q.sits) <= 10) {
                    if (!chance(law("hears", j, p.sits), indeed)) continue;
                    q.heard++;
                    hearers++;
                    note(indeed, 2, j, i);
                }
            }
            note(indeed, 1, i, hearers);
        }
        for (Person p : w.persons) {
            if (p.sits == NONE) continue;
            p.stayed++;
            if (p.stayed == p.until) p.rise();
        }
        for (int i = 0; i < w.porches.size(); i++) {
            Porch h = w.porches.get(i);
            if (h.lamp == 0) continue;
            h.lamp--;
            if (h.lamp > 0 || h.master == NONE || w.persons.get(h.master).sits != i) continue;
            for (int j = 0; j < w.persons.size(); j++) {
                Person p = w.persons.get(j);
                if (j == h.master || p.sits != i || p.accepted != NONE) continue;
                p.accepted = h.master;
                note(indeed, 3, j, h.master);
            }
        }
        for (int i = 0; i < w.porches.size(); i++) {
            if (w.sitting(i) != 0) continue;
            Porch h = w.porches.get(i);
            h.cobweb = Math.min(99, h.cobweb + law("spins", NONE, i));
        }
        w.minute++;
        if (w.minute == 60) {
            w.minute = 0;
            w.evening++;
            for (Person p : w.persons) p.rise();
        }
        return spoken;
    }

    int minutes(int n) {
        if (!in(n, 1, 60)) return NONE;
        int spoken = 0;
        for (int i = 0; i < n; i++) {
            keep();
            spoken += pass(true);
        }
        return spoken;
    }

    int feed(int... five) {
        if (tape.length() > 380) return NONE;
        for (int f : five) for (int shift = 24; shift >= 0; shift -= 8) tape.append((char) (f >> shift & 255));
        return tape.length();
    }

    boolean end(int n) {
        if (n < 0 || n > tape.length()) return false;
        tape.setLength(n);
        return true;
    }

    int text(int k) {
        String text = tape.toString();
        tape.setLength(0);
        faultKind = 0;
        faultPlace = NONE;
        try {
            if (k == 0) {
                told.law = new Parser(text, this).law();
                return told.law.size();
            }
            if (k == 1) {
                told.calls = new Parser(text, this).calls();
                undone.clear();
                return told.calls.size();
            }
            if (k == 2) {
                told.evenings = new Parser(text, this).evenings();
                undone.clear();
                return told.evenings.size();
            }
            if (k == 3) {
                told.street = new Parser(text, this).street();
                return told.street.size();
            }
        } catch (Fault f) {
            faultKind = f.kind;
            faultPlace = f.place;
        }
        return NONE;
    }

    /** Recursive descent over tokens that a pattern finds. */
    static final class Parser {
        private static final Pattern TOKEN = Pattern.compile("[A-Za-z]+|[0-9]+|[^ \\n]", Pattern.DOTALL);
        private final List<String> tokens = new ArrayList<>();
        private final List<Integer> places = new ArrayList<>();
        private final Model model;
        private int at = 0;

        Parser(String text, Model model) {
            this.model = model;
            Matcher m = TOKEN.matcher(text);
            while (m.find()) {
                tokens.add(m.group());
                places.add(m.start());
            }
            tokens.add("");
            places.add(text.length());
        }

        String token() {
            return tokens.get(at);
        }

        Fault fault(int kind) {
            return new Fault(kind, places.get(at));
        }

        void take(String s) throws Fault {
            if (!token().equals(s)) throw fault(1);
            at++;
        }

        boolean skip(String s) {
            if (!token().equals(s)) return false;
            at++;
            return true;
        }

        int number(int a, int b) throws Fault {
            if (!token().matches("[0-9]{1,4}")) throw fault(1);
            int v = Integer.parseInt(token());
            if (v < a || v > b) throw fault(2);
            at++;
            return v;
        }

        int porch() throws Fault {
            return number(0, model.world.porches.size() - 1);
        }

        int person() throws Fault {
            return number(0, model.world.persons.size() - 1);
        }

        void begin(int lines, String... words) throws Fault {
            if (!Arrays.asList(words).contains(token())) throw fault(1);
            if (lines == 16) throw fault(3);
        }

        List<int[]> calls() throws Fault {
            List<int[]> lines = new ArrayList<>();
            while (!token().isEmpty()) {
                begin(lines.size(), "person");
                at++;
                int person = person();
                take("at");
                int minute = number(0, 59);
                take("on");
                int porch = porch();
                take("for");
                int length = number(1, 60);
                take(";");
                lines.add(new int[] {person, minute, porch, length});
            }
            return lines;
        }

        List<String[]> evenings() throws Fault {
            List<String[]> lines = new ArrayList<>();
            while (!token().isEmpty()) {
                begin(lines.size(), "in");
                at++;
                int evening = number(0, 999);
                String what = token();
                int a;
                int b = 0;
                if (skip("oil")) {
                    a = porch();
                    b = number(0, 99);
                } else if (skip("sweep")) {
                    a = porch();
                } else if (skip("rain")) {
                    a = number(0, 59);
                } else if (skip("master")) {
                    a = porch();
                    b = person();
                } else {
                    throw fault(1);
                }
                take(";");
                lines.add(new String[] {"" + evening, what, "" + a, "" + b});
            }
            return lines;
        }

        List<int[]> street() throws Fault {
            List<int[]> lines = new ArrayList<>();
            while (!token().isEmpty()) {
                begin(lines.size(), "porch");
                at++;
                int a = porch();
                take("by");
                int place = at;
                int b = porch();
                if (a == b) {
                    at = place;
                    throw fault(2);
                }
                int feet = number(1, 99);
                take(";");
                lines.add(new int[] {a, b, feet});
            }
            return lines;
        }

        List<LawLine> law() throws Fault {
            List<LawLine> lines = new ArrayList<>();
            while (!token().isEmpty()) {
                begin(lines.size(), "speaks", "hears", "spins");
                LawLine l = new LawLine();
                l.word = token();
                at++;
                l.value = e();
                if (skip("when")) l.when = b(0);
                take(";");
                lines.add(l);
            }
            return lines;
        }

        Node b(int open) throws Fault {
            Node left = a(open);
            while (skip("or")) {
                Node l = left;
                Node r = a(open);
                left = (w, p, h) -> l.value(w, p, h) == 1 || r.value(w, p, h) == 1 ? 1 : 0;
            }
            return left;
        }

        Node a(int open) throws Fault {
            Node left = c(open);
            while (skip("and")) {
                Node l = left;
                Node r = c(open);
                left = (w, p, h) -> l.value(w, p, h) == 1 && r.value(w, p, h) == 1 ? 1 : 0;
            }
            return left;
        }

        Node c(int open) throws Fault {
            if (token().equals("not") || token().equals("(")) {
                if (open == 8) throw fault(3);
                if (skip("not")) {
                    Node n = c(open + 1);
                    return (w, p, h) -> 1 - n.value(w, p, h);
                }
                at++;
                Node n = b(open + 1);
                take(")");
                return n;
            }
            Node l = e();
            String sign = token();
            if (!"<=>".contains(sign) || sign.isEmpty()) throw fault(1);
            at++;
            Node r = e();
            return (w, p, h) -> {
                int x = l.value(w, p, h);
                int y = r.value(w, p, h);
                return (sign.equals("<") ? x < y : sign.equals("=") ? x == y : x > y) ? 1 : 0;
            };
        }

        Node e() throws Fault {
            Node left = t();
            while (token().equals("+") || token().equals("-")) {
                boolean plus = token().equals("+");
                at++;
                Node l = left;
                Node r = t();
                left = (w, p, h) -> plus ? l.value(w, p, h) + r.value(w, p, h) : l.value(w, p, h) - r.value(w, p, h);
            }
            return left;
        }

        Node t() throws Fault {
            Node left = u();
            while (token().equals("*") || token().equals("/")) {
                Node l = left;
                if (skip("*")) {
                    Node r = u();
                    left = (w, p, h) -> l.value(w, p, h) * r.value(w, p, h);
                } else {
                    at++;
                    int n = number(1, 9999);
                    left = (w, p, h) -> l.value(w, p, h) / n;
                }
            }
            return left;
        }

        Node u() throws Fault {
            String s = token();
            if (!s.isEmpty() && Character.isDigit(s.charAt(0))) {
                int n = number(0, 9999);
                return (w, p, h) -> n;
            }
            Node n = noun(s);
            if (n == null) throw fault(1);
            at++;
            return n;
        }

        static Node noun(String s) {
            switch (s) {
                case "tongue": return (w, p, h) -> p == null ? 0 : p.tongue;
                case "ears": return (w, p, h) -> p == null ? 0 : p.ears;
                case "stayed": return (w, p, h) -> p == null ? 0 : p.stayed;
                case "said": return (w, p, h) -> p == null ? 0 : p.said;
                case "heard": return (w, p, h) -> p == null ? 0 : p.heard;
                case "sitting": return (w, p, h) -> w.sitting(h);
                case "lamp": return (w, p, h) -> w.porches.get(h).lamp;
                case "cobweb": return (w, p, h) -> w.porches.get(h).cobweb;
                case "minute": return (w, p, h) -> w.minute;
                case "evening": return (w, p, h) -> w.evening;
                default: return null;
            }
        }
    }

    int fault(int what) {
        return what == 0 ? faultKind : what == 1 ? faultPlace : NONE;
    }

    int porchOf(int porch, int what) {
        if (!isPorch(porch)) return NONE - 1;
        Porch p = world.porches.get(porch);
        if (what == 0) return p.chairs;
        if (what == 1) return p.lamp;
        if (what == 2) return p.cobweb;
        if (what == 3) return p.master;
        if (what == 4) {
            int set = 0;
            for (int i = 0; i < world.persons.size(); i++) if (world.persons.get(i).sits == porch) set += 1 << i;
            return set;
        }
        if (what == 5) return law("spins", NONE, porch);
        if (what < 10 || what >= 10 + world.porches.size()) return NONE - 1;
        return what == 10 + porch ? NONE : feet(porch, what - 10);
    }

    int of(int person, int what) {
        if (!isPerson(person)) return NONE - 1;
        Person p = world.persons.get(person);
        switch (what) {
            case 0: return p.tongue;
            case 1: return p.ears;
            case 2: return p.sits;
            case 3: return p.sits == NONE ? 0 : p.stayed;
            case 4: return p.said;
            case 5: return p.heard;
            case 6: return p.accepted;
            case 7: return p.sits == NONE ? NONE : law("speaks", person, p.sits);
            default: return NONE - 1;
        }
    }

    int hears(int person, int porch) {
        return isPerson(person) && isPorch(porch) ? law("hears", person, porch) : NONE;
    }

    int book(int i, int what) {
        return in(i, 0, world.book.size() - 1) && in(what, 0, 4) ? world.book.get(i)[what] : NONE;
    }

    int goes(int n, int what) {
        if (!in(n, 1, 60) || !in(what, 0, 3)) return NONE;
        World indeed = world;
        world = indeed.copy();
        for (int i = 0; i < n; i++) pass(false);
        int sum = 0;
        for (Person p : world.persons) sum += what == 0 ? p.said : what == 1 ? p.heard : 0;
        for (Porch p : world.porches) sum += what == 2 ? p.cobweb : what == 3 ? p.lamp : 0;
        world = indeed;
        return sum;
    }

    int soonest(int person) {
        if (!isPerson(person)) return NONE;
        World indeed = world;
        world = indeed.copy();
        int answer = NONE;
        for (int i = 0; i <= 60 && answer == NONE; i++) {
            if (world.persons.get(person).accepted != NONE) answer = i;
            else pass(false);
        }
        world = indeed;
        return answer;
    }

    boolean wishes(int side, int i, int order) {
        if (!in(side, 0, 1) || !in(i, 0, 4) || !in(order, 0, 99999)) return false;
        String digits = String.format("%05d", order);
        for (char c = '0'; c <= '4'; c++) if (digits.indexOf(c) < 0) return false;
        int[] row = new int[5];
        for (int k = 0; k < 5; k++) row[k] = digits.charAt(k) - '0';
        told.wishes[side * 5 + i] = row;
        return true;
    }

    int rank(int side, int i, int other) {
        int r = 0;
        while (told.wishes[side * 5 + i][r] != other) r++;
        return r;
    }

    /** All pairings in which nobody would rather; the asking side has its best in one of them all. */
    int matched(int s, int i, int a) {
        if (s != NONE && (!in(s, 0, 1) || !in(i, 0, 4) || !in(a, 0, 1))) return NONE;
        List<int[]> settled = new ArrayList<>();
        for (int[] pair : permutations(5)) {
            boolean good = true;
            for (int x = 0; x < 5; x++) {
                for (int y = 0; y < 5; y++) {
                    int hers = indexOf(pair, y);
                    if (rank(0, x, y) < rank(0, x, pair[x]) && rank(1, y, x) < rank(1, y, hers)) good = false;
                }
            }
            if (good) settled.add(pair);
        }
        if (s == NONE) return settled.size();
        int best = NONE;
        for (int[] pair : settled) {
            int mate = s == 0 ? pair[i] : indexOf(pair, i);
            boolean dearer = best != NONE && rank(s, i, mate) < rank(s, i, best);
            if (best == NONE || (s == a) == dearer && mate != best) best = mate;
        }
        return best;
    }

    static int indexOf(int[] row, int v) {
        for (int i = 0; i < row.length; i++) if (row[i] == v) return i;
        return NONE;
    }

    /** In the order of their places among all. */
    static List<int[]> permutations(int n) {
        List<int[]> all = new ArrayList<>();
        permute(new int[n], 0, 0, all);
        return all;
    }

    private static void permute(int[] row, int k, int used, List<int[]> all) {
        if (k == row.length) {
            all.add(row.clone());
            return;
        }
        for (int v = 0; v < row.length; v++) {
            if ((used >> v & 1) == 1) continue;
            row[k] = v;
            permute(row, k + 1, used | 1 << v, all);
        }
    }

    static int put(List<Integer> row, int v, int a, int b, int most) {
        if (v == NONE) {
            row.clear();
            return 0;
        }
        if (!in(v, a, b) || row.size() == most) return NONE;
        row.add(v);
        return row.size();
    }

    int chair(int period, int first) {
        if (period == NONE) {
            told.chairs.clear();
            return 0;
        }
        if (!in(period, 1, 30) || !in(first, 0, period - 1) || told.chairs.size() == 5) return NONE;
        told.chairs.add(new int[] {period, first});
        return told.chairs.size();
    }

    int rocks(int what) {
        int most = 0;
        int first = NONE;
        for (int t = 0; t <= 9999; t++) {
            int forward = 0;
            for (int[] c : told.chairs) if (t >= c[1] && (t - c[1]) % c[0] == 0) forward++;
            if (first == NONE && forward == told.chairs.size()) first = t;
            if (t <= 99 && forward > most) most = forward;
        }
        return what == 0 ? first : what == 1 ? most : NONE;
    }

    int cat(int from, int to, int times) {
        if (from == NONE) {
            told.ways.clear();
            return 0;
        }
        if (!in(from, 0, 7) || !in(to, 0, 7) || times < 0 || times > 9999) return NONE;
        if (times % 100 <= times / 100 || told.ways.size() == 12) return NONE;
        told.ways.add(new int[] {from, to, times / 100, times % 100});
        return told.ways.size();
    }

    /** Minute by minute: where the reply can be by then. */
    int reply(int p, int m, int q) {
        if (!in(p, 0, 7) || !in(m, 0, 99) || !in(q, 0, 7)) return NONE;
        Set<List<Integer>> at = new HashSet<>();
        at.add(List.of(p, m));
        for (int t = m; t <= 99; t++) {
            for (int place = 0; place < 8; place++) {
                if (!at.contains(List.of(place, t))) continue;
                if (place == q) return t;
                at.add(List.of(place, t + 1));
                for (int[] w : told.ways) if (w[0] == place && w[2] == t) at.add(List.of(w[1], w[3]));
            }
        }
        return NONE;
    }

    int family(int v) {
        return put(told.families, v, 1, 9, 8);
    }

    int storm(int c, int k) {
        if (!in(c, 1, 30) || k != NONE && !in(k, 1, 4)) return NONE;
        if (k != NONE) return shelter(0, new int[k], c);
        for (int n = 0; n <= told.families.size(); n++) if (shelter(0, new int[n], c) > 0) return n;
        return NONE;
    }

    private int shelter(int family, int[] under, int room) {
        if (family == told.families.size()) return 1;
        int ways = 0;
        int much = told.families.get(family);
        for (int i = 0; i < under.length; i++) {
            if (under[i] + much > room) continue;
            under[i] += much;
            ways += shelter(family + 1, under, room);
            under[i] -= much;
            if (ways > 0 && under.length > 4) return 1;
        }
        return ways;
    }

    int board(int v) {
        return put(told.boards, v, 0, 99, 12);
    }

    int level(int what) {
        int n = told.boards.size();
        if (n == 0) return in(what, 0, 1) ? 0 : NONE;
        if (what == 0) {
            int sum = 0;
            for (int b : told.boards) sum += b;
            if (sum % n != 0) return NONE;
            List<Integer> from = new ArrayList<>();
            List<Integer> to = new ArrayList<>();
            for (int i = 0; i < n; i++) {
                for (int j = sum / n; j < told.boards.get(i); j++) from.add(i);
                for (int j = told.boards.get(i); j < sum / n; j++) to.add(i);
            }
            int moves = 0;
            for (int i = 0; i < from.size(); i++) moves += Math.abs(from.get(i) - to.get(i));
            return moves;
        }
        if (what != 1) return NONE;
        int water = 0;
        for (int h = 1; h <= 99; h++) {
            int first = NONE;
            int last = NONE;
            int as = 0;
            for (int i = 0; i < n; i++) {
                if (told.boards.get(i) < h) continue;
                if (first == NONE) first = i;
                last = i;
                as++;
            }
            if (as > 0) water += last - first + 1 - as;
        }
        return water;
    }

    int talk(int v) {
        return put(told.words, v, 0, 2, 24);
    }

    int talks(int what) {
        int depth = 0;
        int in = 0;
        int first = NONE;
        for (int i = 0; i < told.words.size(); i++) {
            if (told.words.get(i) == 1) in = Math.max(in, ++depth);
            if (told.words.get(i) == 2 && depth == 0 && first == NONE) first = i;
            if (told.words.get(i) == 2 && depth > 0) depth--;
        }
        if (what == 0) return in;
        if (what == 1) return first;
        if (!in(what, 10, 25)) return NONE;
        int n = what - 10;
        long[][] ways = new long[2 * n + 1][2 * n + 3];
        ways[0][0] = 1;
        for (int i = 0; i < 2 * n; i++) {
            for (int d = 0; d <= i; d++) {
                ways[i + 1][d + 1] += ways[i][d];
                if (d > 0) ways[i + 1][d - 1] += ways[i][d];
            }
        }
        return (int) ways[2 * n][0];
    }

    int half(int which, int word) {
        return in(which, 0, 2) ? put(told.halves.get(which), word, 0, 9, which == 2 ? 24 : 12) : NONE;
    }

    int halves(int what) {
        if (!in(what, 0, 1)) return NONE;
        int ways = told.halves.get(2).size() == told.halves.get(0).size() + told.halves.get(1).size()
            ? hear(0, 0, new HashMap<>()) : 0;
        return what == 1 ? ways : Math.min(1, ways);
    }

    private int hear(int i, int j, Map<Integer, Integer> known) {
        List<Integer> a = told.halves.get(0);
        List<Integer> b = told.halves.get(1);
        List<Integer> c = told.halves.get(2);
        if (i + j == c.size()) return 1;
        Integer before = known.get(100 * i + j);
        if (before != null) return before;
        int ways = 0;
        if (i < a.size() && a.get(i).equals(c.get(i + j))) ways += hear(i + 1, j, known);
        if (j < b.size() && b.get(j).equals(c.get(i + j))) ways += hear(i, j + 1, known);
        known.put(100 * i + j, ways);
        return ways;
    }

    int swing(int weight) {
        return put(told.weights, weight, 1, 60, 8);
    }

    int swings(int what) {
        int n = told.weights.size();
        if (!in(what, 0, 1) || n % 2 == 1) return NONE;
        int best = Integer.MAX_VALUE;
        int who = 0;
        for (int set = 0; set < 1 << n; set++) {
            int here = 0;
            int there = 0;
            int count = 0;
            for (int i = 0; i < n; i++) {
                if ((set >> i & 1) == 1) {
                    here += told.weights.get(i);
                    count++;
                } else {
                    there += told.weights.get(i);
                }
            }
            if (count * 2 != n || n > 0 && (set & 1) == 0) continue;
            if (Math.abs(here - there) < best) {
                best = Math.abs(here - there);
                who = set;
            }
        }
        return what == 0 ? best : who;
    }

    int quarrel(int a, int b) {
        if (a == NONE) {
            told.quarrels.clear();
            return 0;
        }
        if (!in(a, 0, 7) || !in(b, 0, 7) || a == b || told.quarrels.size() == 8) return NONE;
        told.quarrels.add(new int[] {a, b});
        return told.quarrels.size();
    }

    private boolean quarrels(int a, int b) {
        for (int[] q : told.quarrels) if (q[0] == a && q[1] == b || q[1] == a && q[0] == b) return true;
        return false;
    }

    int seated(int n, int what) {
        if (!in(n, 1, 8) || !in(what, 0, 1)) return NONE;
        int ways = 0;
        for (int[] row : permutations(n)) {
            boolean good = what == 0 || row[0] == 0 && !quarrels(row[0], row[n - 1]);
            for (int i = 1; i < n; i++) good &= !quarrels(row[i - 1], row[i]);
            if (good) ways++;
        }
        return ways;
    }

    int last(int porch, int what) {
        if (!isPorch(porch) || !in(what, 0, 2)) return NONE;
        int n = world.porches.size();
        int far = 1000000;
        int[][] d = new int[n][n];
        for (int i = 0; i < n; i++) for (int j = 0; j < n; j++) d[i][j] = i == j ? 0 : feet(i, j) == NONE ? far : feet(i, j);
        for (int k = 0; k < n; k++) {
            for (int i = 0; i < n; i++) for (int j = 0; j < n; j++) d[i][j] = Math.min(d[i][j], d[i][k] + d[k][j]);
        }
        int last = NONE;
        int count = 0;
        for (int i = 0; i < n; i++) {
            if (d[porch][i] >= far) continue;
            count++;
            if (last == NONE || d[porch][i] > d[porch][last]) last = i;
        }
        return what == 0 ? last : what == 1 ? d[porch][last] : count;
    }

    /** Ways by the first and the latest pace. */
    int steps(int n, int paces, int what) {
        if (!in(n, 0, 40) || !in(paces, 0, 31) || !in(what, 0, 1)) return NONE;
        if (n == 0) return 1;
        long all = 0;
        for (int first = 1; first <= 5; first++) {
            if ((paces >> first - 1 & 1) == 0) continue;
            long[][] at = new long[n + 1][6];
            if (first <= n) at[first][first] = 1;
            for (int i = 1; i <= n; i++) {
                for (int p = 1; p <= 5 && p < i; p++) {
                    if ((paces >> p - 1 & 1) == 0) continue;
                    for (int before = 1; before <= 5; before++) at[i][p] = (at[i][p] + at[i - p][before]) % 1000000007;
                }
            }
            for (int p = 1; p <= 5; p++) if (what == 0 || p == first) all += at[n][p];
        }
        return (int) (all % 1000000007);
    }

    int lamps(int a, int b, int c, int q) {
        if (!in(a, 1, 12) || !in(b, 1, 12) || !in(c, 1, 12) || !in(q, 0, 12)) return NONE;
        int[] sizes = {a, b, c};
        Set<List<Integer>> known = new HashSet<>();
        Set<List<Integer>> now = new HashSet<>();
        now.add(List.of(a, 0, 0));
        for (int pourings = 0; !now.isEmpty(); pourings++) {
            Set<List<Integer>> next = new HashSet<>();
            for (List<Integer> cans : now) {
                if (cans.contains(q)) return pourings;
                known.add(cans);
                for (int f = 0; f < 3; f++) {
                    for (int t = 0; t < 3; t++) {
                        if (f == t) continue;
                        Integer[] after = cans.toArray(new Integer[0]);
                        while (after[f] > 0 && after[t] < sizes[t]) {
                            after[f]--;
                            after[t]++;
                        }
                        next.add(List.of(after));
                    }
                }
            }
            next.removeAll(known);
            now = next;
        }
        return NONE;
    }

    int hooks(int row, int what) {
        String s = "" + row;
        int n = s.length() - 1;
        if (!s.startsWith("1") || !in(n, 1, 9) || !in(what, 0, 2)) return NONE;
        int[] hats = new int[n];
        for (int i = 0; i < n; i++) {
            hats[i] = s.charAt(i + 1) - '0';
            if (s.indexOf((char) ('0' + i), 1) < 0) return NONE;
        }
        if (what == 0) {
            int best = 0;
            for (int set = 0; set < 1 << n; set++) {
                int latest = NONE;
                int count = 0;
                boolean up = true;
                for (int i = 0; i < n; i++) {
                    if ((set >> i & 1) == 0) continue;
                    up &= hats[i] > latest;
                    latest = hats[i];
                    count++;
                }
                if (up && count > best) best = count;
            }
            return best;
        }
        int turns = 0;
        for (int i = 0; i < n; i++) for (int j = 0; j < i; j++) if (hats[j] > hats[i]) turns++;
        if (what == 1) return turns;
        int place = 0;
        for (int[] other : permutations(n)) {
            if (Arrays.equals(other, hats)) return place;
            place++;
        }
        return NONE;
    }

    private static final int[][] TAKES = new int[201][201];

    /** 0: not known yet. */
    int game(int a, int b) {
        if (!in(a, 1, 200) || !in(b, 1, 200)) return NONE;
        int more = Math.max(a, b);
        int less = Math.min(a, b);
        if (TAKES[more][less] != 0) return TAKES[more][less];
        int take = NONE;
        for (int t = more / less * less; t >= less; t -= less) {
            if (t == more || game(more - t, less) == NONE) take = t;
        }
        TAKES[more][less] = take;
        return take;
    }

    boolean undo() {
        if (undone.isEmpty()) return false;
        world = undone.removeLast();
        return true;
    }

    boolean image(boolean taken) {
        if (taken) {
            imageWorld = world.copy();
            imageTold = told.copy();
            return true;
        }
        if (imageWorld == null) return false;
        world = imageWorld.copy();
        told = imageTold.copy();
        undone.clear();
        return true;
    }

    int look(int what) {
        int sit = 0;
        int accepted = 0;
        for (int i = 0; i < world.persons.size(); i++) {
            if (world.persons.get(i).sits != NONE) sit |= 1 << i;
            if (world.persons.get(i).accepted != NONE) accepted |= 1 << i;
        }
        int[] all = {world.porches.size(), world.persons.size(), world.minute, world.evening, world.swept, sit, accepted,
            world.book.size(), world.state, told.law.size(), told.calls.size(), told.evenings.size(), told.street.size(),
            undone.size()};
        return in(what, 0, 13) ? all[what] : NONE;
    }
}
