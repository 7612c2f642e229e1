import java.util.Arrays;

/**
 * A street of porches: who sits there, what is said and half heard, and what can be thought of it.
 * The document's promises are the public methods; the classes inside hold what these speak of.
 * All rows are made with the object and used again, so that no call makes anything new.
 */
public final class PorchHours {
    public static final int NONE = -1;

    private static final int NO_SUCH = NONE - 1;
    private static final int MOST_PORCHES = 12;
    private static final int MOST_PERSONS = 20;
    private static final int MINUTES_OF_EVENING = 60;
    private static final int LAST_EVENING = 9990;
    private static final int MOST_BYTES = 400;
    private static final int MOST_LINES = 16;
    private static final int MOST_COBWEB = 99;
    private static final int MOST_LAMP = 99;
    private static final int NEXT_DOOR_FEET = 10;
    private static final int WETTING_COBWEB = 50;
    private static final long PRIME = 1000000007L;

    private static final int TEXT_LAW = 0;
    private static final int TEXT_CALLS = 1;
    private static final int TEXT_EVENINGS = 2;
    private static final int TEXT_STREET = 3;

    private static final int BOOK_SAT = 0;
    private static final int BOOK_SPOKE = 1;
    private static final int BOOK_OVERHEARD = 2;
    private static final int BOOK_ACCEPTED = 3;
    private static final int BOOK_SWEPT = 4;

    private final Tape tape;
    private final Houses houses;
    private final Told told;
    private final Row diary;
    private final Undone undone;
    private final Reader reader;
    private final Law law;
    private final Hours hours;
    private final Couples couples;
    private final Puzzles puzzles;
    private final Houses beforeThought;
    private final Houses imageHouses;
    private final Told imageTold;
    private final Row imageDiary;
    private boolean imageTaken;

    public PorchHours() {
        tape = new Tape();
        houses = new Houses();
        told = new Told();
        diary = new Row(5, 150);
        undone = new Undone();
        reader = new Reader(tape, houses);
        law = new Law(houses, told);
        hours = new Hours(houses, told, law, diary);
        couples = new Couples(told.wishRows);
        puzzles = new Puzzles(told);
        beforeThought = new Houses();
        imageHouses = new Houses();
        imageTold = new Told();
        imageDiary = new Row(5, 150);
        imageTaken = false;
    }

    public int state(int v) {
        int before = houses.draws;
        houses.draws = v;
        undone.forget();
        return before;
    }

    public int porch(int chairs, int lamp) {
        if (!within(chairs, 1, 6) || !within(lamp, 0, MOST_LAMP)) return NONE;
        int number = houses.addPorch(chairs, lamp);
        if (number != NONE) undone.forget();
        return number;
    }

    public int person(int tongue, int ears) {
        if (!within(tongue, 0, 9) || !within(ears, 0, 9)) return NONE;
        int number = houses.addPerson(tongue, ears);
        if (number != NONE) undone.forget();
        return number;
    }

    public boolean set(int what, int who, int v) {
        boolean can = what == 0 || what == 1 ? changePorch(what, who, v) : changePerson(what, who, v);
        if (can) undone.forget();
        return can;
    }

    private boolean changePorch(int what, int porch, int v) {
        if (!houses.hasPorch(porch)) return false;
        if (what == 0) {
            if (!within(v, 0, MOST_COBWEB)) return false;
            houses.cobweb[porch] = v;
            return true;
        }
        if (v != NONE && !houses.hasPerson(v)) return false;
        houses.master[porch] = v;
        return true;
    }

    private boolean changePerson(int what, int person, int v) {
        if (what != 2 && what != 3) return false;
        if (!houses.hasPerson(person) || !within(v, 0, 9)) return false;
        if (what == 2) houses.tongue[person] = v;
        else houses.ears[person] = v;
        return true;
    }

    public boolean act(int what, int who, int v) {
        if (what == 0) return sitByHand(who, v);
        if (what == 1) return riseByHand(who);
        if (what == 2) return sweepByHand(who);
        return what == 3 && fillByHand(who, v);
    }

    private boolean sitByHand(int person, int porch) {
        if (!houses.hasPerson(person) || !houses.hasPorch(porch)) return false;
        if (houses.sits[person] != NONE || !houses.hasFreeChair(porch)) return false;
        undone.keep(houses, diary.size());
        hours.takeSeat(person, porch, MINUTES_OF_EVENING);
        return true;
    }

    private boolean riseByHand(int person) {
        if (!houses.hasPerson(person) || houses.sits[person] == NONE) return false;
        undone.keep(houses, diary.size());
        houses.rise(person);
        return true;
    }

    private boolean sweepByHand(int porch) {
        if (!houses.hasPorch(porch)) return false;
        undone.keep(houses, diary.size());
        hours.sweepPorch(porch);
        return true;
    }

    private boolean fillByHand(int porch, int oil) {
        if (!houses.hasPorch(porch) || !within(oil, 0, MOST_LAMP)) return false;
        undone.keep(houses, diary.size());
        houses.lamp[porch] = oil;
        return true;
    }

    public int minutes(int n) {
        if (!within(n, 1, MINUTES_OF_EVENING)) return NONE;
        if (houses.evening + (houses.minute + n) / MINUTES_OF_EVENING > LAST_EVENING) return NONE;
        int spoken = 0;
        for (int i = 0; i < n; i++) {
            undone.keep(houses, diary.size());
            spoken += hours.pass(false);
        }
        return spoken;
    }

    public int feed(int a, int b, int c, int d, int e) {
        if (!tape.hasRoom(20)) return NONE;
        tape.append(a);
        tape.append(b);
        tape.append(c);
        tape.append(d);
        tape.append(e);
        return tape.length();
    }

    public boolean end(int n) {
        return tape.cut(n);
    }

    public int text(int k) {
        boolean taken = reader.read(k);
        tape.cut(0);
        if (!taken) return NONE;
        Row lines = told.linesOf(k);
        lines.copyFrom(reader.draft());
        if (k == TEXT_LAW) told.lawCode.copyFrom(reader.draftCode());
        if (k == TEXT_CALLS || k == TEXT_EVENINGS) undone.forget();
        return lines.size();
    }

    public int fault(int what) {
        if (what == 0) return reader.faultKind();
        return what == 1 ? reader.faultPlace() : NONE;
    }

    public int porchOf(int porch, int what) {
        if (!houses.hasPorch(porch)) return NO_SUCH;
        switch (what) {
            case 0: return houses.chairs[porch];
            case 1: return houses.lamp[porch];
            case 2: return houses.cobweb[porch];
            case 3: return houses.master[porch];
            case 4: return houses.sittersOf(porch);
            case 5: return law.tells(Tokens.SPINS, NONE, porch);
            default: return houses.hasPorch(what - 10) ? told.feet(porch, what - 10) : NO_SUCH;
        }
    }

    public int of(int person, int what) {
        if (!houses.hasPerson(person)) return NO_SUCH;
        switch (what) {
            case 0: return houses.tongue[person];
            case 1: return houses.ears[person];
            case 2: return houses.sits[person];
            case 3: return houses.stayed[person];
            case 4: return houses.said[person];
            case 5: return houses.heard[person];
            case 6: return houses.accepted[person];
            case 7: return houses.sits[person] == NONE ? NONE : law.tells(Tokens.SPEAKS, person, houses.sits[person]);
            default: return NO_SUCH;
        }
    }

    public int hears(int person, int porch) {
        if (!houses.hasPerson(person) || !houses.hasPorch(porch)) return NONE;
        return law.tells(Tokens.HEARS, person, porch);
    }

    public int book(int i, int what) {
        return diary.get(i, what);
    }

    public int goes(int n, int what) {
        if (!within(n, 1, MINUTES_OF_EVENING) || !within(what, 0, 3)) return NONE;
        beforeThought.copyFrom(houses);
        for (int i = 0; i < n; i++) hours.pass(true);
        int sum = houses.sumOf(what);
        houses.copyFrom(beforeThought);
        return sum;
    }

    public int soonest(int person) {
        if (!houses.hasPerson(person)) return NONE;
        beforeThought.copyFrom(houses);
        int passed = 0;
        while (houses.accepted[person] == NONE && passed < MINUTES_OF_EVENING) {
            hours.pass(true);
            passed++;
        }
        boolean accepted = houses.accepted[person] != NONE;
        houses.copyFrom(beforeThought);
        return accepted ? passed : NONE;
    }

    public boolean wishes(int side, int i, int order) {
        return within(side, 0, 1) && within(i, 0, 4) && couples.change(side, i, order);
    }

    public int matched(int s, int i, int a) {
        if (s == NONE) return couples.settled();
        if (!within(s, 0, 1) || !within(i, 0, 4) || !within(a, 0, 1)) return NONE;
        return couples.partner(s, i, a);
    }

    public int chair(int period, int first) {
        if (period == NONE) return told.chairRows.clear();
        if (!within(period, 1, 30) || first < 0 || first >= period) return NONE;
        return told.chairRows.add(period, first, 0, 0, 0);
    }

    public int rocks(int what) {
        if (what == 0) return puzzles.allForward();
        return what == 1 ? puzzles.mostForward() : NONE;
    }

    public int cat(int from, int to, int times) {
        if (from == NONE) return told.catWays.clear();
        if (!within(from, 0, 7) || !within(to, 0, 7) || !within(times, 0, 9999)) return NONE;
        int leaves = times / 100;
        int comes = times % 100;
        return comes > leaves ? told.catWays.add(from, to, leaves, comes, 0) : NONE;
    }

    public int reply(int p, int m, int q) {
        if (!within(p, 0, 7) || !within(m, 0, 99) || !within(q, 0, 7)) return NONE;
        return puzzles.carried(p, m, q);
    }

    public int family(int v) {
        if (v == NONE) return told.families.clear();
        return within(v, 1, 9) ? told.families.add(v) : NONE;
    }

    public int storm(int c, int k) {
        if (!within(c, 1, 30)) return NONE;
        if (k == NONE) return puzzles.fewestShelters(c);
        return within(k, 1, 4) ? puzzles.waysToShelter(c, k) : NONE;
    }

    public int board(int v) {
        if (v == NONE) return told.boards.clear();
        return within(v, 0, 99) ? told.boards.add(v) : NONE;
    }

    public int level(int what) {
        if (what == 0) return puzzles.fewestShovels();
        return what == 1 ? puzzles.ditch() : NONE;
    }

    public int talk(int v) {
        if (v == NONE) return told.words.clear();
        return within(v, 0, 2) ? told.words.add(v) : NONE;
    }

    public int talks(int what) {
        if (what == 0) return puzzles.deepest();
        if (what == 1) return puzzles.firstUnbegun();
        return within(what, 10, 25) ? puzzles.waysOfMatters(what - 10) : NONE;
    }

    public int half(int which, int word) {
        if (!within(which, 0, 2)) return NONE;
        Row talk = told.halfOf(which);
        if (word == NONE) return talk.clear();
        return within(word, 0, 9) ? talk.add(word) : NONE;
    }

    public int halves(int what) {
        if (what == 0) return puzzles.waysHeard() > 0 ? 1 : 0;
        return what == 1 ? puzzles.waysHeard() : NONE;
    }

    public int swing(int weight) {
        if (weight == NONE) return told.weights.clear();
        return within(weight, 1, 60) ? told.weights.add(weight) : NONE;
    }

    public int swings(int what) {
        if (!within(what, 0, 1) || told.weights.size() % 2 != 0) return NONE;
        int seat = puzzles.fairestSeat();
        return what == 1 ? seat : puzzles.heavierBy(seat);
    }

    public int quarrel(int a, int b) {
        if (a == NONE) return told.quarrels.clear();
        if (!within(a, 0, 7) || !within(b, 0, 7) || a == b) return NONE;
        return told.quarrels.add(a, b, 0, 0, 0);
    }

    public int seated(int n, int what) {
        if (!within(n, 1, 8) || !within(what, 0, 1)) return NONE;
        return puzzles.waysToSit(n, what == 1);
    }

    public int last(int porch, int what) {
        if (!houses.hasPorch(porch) || !within(what, 0, 2)) return NONE;
        return puzzles.lastToHear(porch, what);
    }

    public int steps(int n, int paces, int what) {
        if (!within(n, 0, 40) || !within(paces, 0, 31)) return NONE;
        if (what == 0) return puzzles.waysUp(n, paces);
        return what == 1 ? puzzles.waysUpAlike(n, paces) : NONE;
    }

    public int lamps(int a, int b, int c, int q) {
        if (!within(a, 1, 12) || !within(b, 1, 12) || !within(c, 1, 12) || !within(q, 0, 12)) return NONE;
        return puzzles.fewestPourings(a, b, c, q);
    }

    public int hooks(int row, int what) {
        int n = puzzles.hang(row);
        if (n == NONE) return NONE;
        switch (what) {
            case 0: return puzzles.longestRising(n);
            case 1: return puzzles.wrongCouples(n);
            case 2: return puzzles.placeAmongAll(n);
            default: return NONE;
        }
    }

    public int game(int a, int b) {
        if (!within(a, 1, 200) || !within(b, 1, 200)) return NONE;
        return puzzles.winningTake(Math.max(a, b), Math.min(a, b));
    }

    public boolean undo() {
        int lines = undone.goBack(houses);
        if (lines == NONE) return false;
        diary.cutTo(lines);
        return true;
    }

    public boolean image(boolean taken) {
        if (taken) {
            imageHouses.copyFrom(houses);
            imageTold.copyFrom(told);
            imageDiary.copyFrom(diary);
            imageTaken = true;
            return true;
        }
        if (!imageTaken) return false;
        houses.copyFrom(imageHouses);
        told.copyFrom(imageTold);
        diary.copyFrom(imageDiary);
        undone.forget();
        return true;
    }

    public int look(int what) {
        switch (what) {
            case 0: return houses.porches;
            case 1: return houses.persons;
            case 2: return houses.minute;
            case 3: return houses.evening;
            case 4: return houses.swept;
            case 5: return houses.allSitters();
            case 6: return houses.allAccepted();
            case 7: return diary.size();
            case 8: return houses.draws;
            case 9: return told.lawLines.size();
            case 10: return told.calls.size();
            case 11: return told.evenings.size();
            case 12: return told.street.size();
            case 13: return undone.size();
            default: return NONE;
        }
    }

    private static boolean within(int v, int least, int most) {
        return v >= least && v <= most;
    }

    /** Lines of one width, one behind the other, up to a most. */
    private static final class Row {
        private final int width;
        private final int[] cells;
        private int lines;

        Row(int width, int most) {
            this.width = width;
            cells = new int[width * most];
            lines = 0;
        }

        int size() {
            return lines;
        }

        boolean isFull() {
            return (lines + 1) * width > cells.length;
        }

        int get(int line, int column) {
            if (line < 0 || line >= lines || column < 0 || column >= width) return NONE;
            return cells[line * width + column];
        }

        /** For rows of one column: how many lines then; NONE without room. */
        int add(int a) {
            if (width != 1 || lines >= cells.length) return NONE;
            cells[lines] = a;
            lines++;
            return lines;
        }

        /** One line more, of as many of these as it is wide: how many lines then; NONE without room. */
        int add(int a, int b, int c, int d, int e) {
            if (isFull()) return NONE;
            lines++;
            change(lines - 1, a, b, c, d, e);
            return lines;
        }

        void change(int line, int a, int b, int c, int d, int e) {
            if (line < 0 || line >= lines) return;
            int start = line * width;
            if (width > 0) cells[start] = a;
            if (width > 1) cells[start + 1] = b;
            if (width > 2) cells[start + 2] = c;
            if (width > 3) cells[start + 3] = d;
            if (width > 4) cells[start + 4] = e;
        }

        int clear() {
            lines = 0;
            return 0;
        }

        void cutTo(int n) {
            if (n >= 0 && n < lines) lines = n;
        }

        /** For rows of one width and one most alone. */
        void copyFrom(Row other) {
            if (other.width != width || other.cells.length != cells.length) return;
            lines = other.lines;
            System.arraycopy(other.cells, 0, cells, 0, lines * width);
        }
    }

    /** What was told and does not change by itself: the four texts, and the rows for thought. */
    private static final class Told {
        private final Row lawLines = new Row(4, MOST_LINES);
        private final Row lawCode = new Row(1, MOST_BYTES);
        private final Row calls = new Row(4, MOST_LINES);
        private final Row evenings = new Row(4, MOST_LINES);
        private final Row street = new Row(4, MOST_LINES);
        private final Row wishRows = new Row(5, 10);
        private final Row chairRows = new Row(2, 5);
        private final Row catWays = new Row(4, 12);
        private final Row families = new Row(1, 8);
        private final Row boards = new Row(1, 12);
        private final Row words = new Row(1, 24);
        private final Row firstTalk = new Row(1, 12);
        private final Row secondTalk = new Row(1, 12);
        private final Row heardTalk = new Row(1, 24);
        private final Row weights = new Row(1, 8);
        private final Row quarrels = new Row(2, 8);

        Told() {
            for (int i = 0; i < 10; i++) wishRows.add(0, 1, 2, 3, 4);
        }

        Row linesOf(int k) {
            if (k == TEXT_LAW) return lawLines;
            if (k == TEXT_CALLS) return calls;
            return k == TEXT_EVENINGS ? evenings : street;
        }

        Row halfOf(int which) {
            if (which == 0) return firstTalk;
            return which == 1 ? secondTalk : heardTalk;
        }

        /** The feet of the shortest line of STREET between these two, NONE if there is none. */
        int feet(int one, int other) {
            int shortest = NONE;
            for (int i = 0; i < street.size(); i++) {
                int a = street.get(i, 0);
                int b = street.get(i, 1);
                boolean between = a == one && b == other || a == other && b == one;
                int feet = street.get(i, 2);
                if (between && (shortest == NONE || feet < shortest)) shortest = feet;
            }
            return shortest;
        }

        void copyFrom(Told other) {
            lawLines.copyFrom(other.lawLines);
            lawCode.copyFrom(other.lawCode);
            calls.copyFrom(other.calls);
            evenings.copyFrom(other.evenings);
            street.copyFrom(other.street);
            wishRows.copyFrom(other.wishRows);
            chairRows.copyFrom(other.chairRows);
            catWays.copyFrom(other.catWays);
            families.copyFrom(other.families);
            boards.copyFrom(other.boards);
            words.copyFrom(other.words);
            firstTalk.copyFrom(other.firstTalk);
            secondTalk.copyFrom(other.secondTalk);
            heardTalk.copyFrom(other.heardTalk);
            weights.copyFrom(other.weights);
            quarrels.copyFrom(other.quarrels);
        }
    }

    /** The porches and the persons as they are now. */
    private static final class Houses {
        private int draws = 0;
        private int minute = 0;
        private int evening = 0;
        private int swept = 0;
        private int porches = 0;
        private int persons = 0;
        private final int[] chairs = new int[MOST_PORCHES];
        private final int[] lamp = new int[MOST_PORCHES];
        private final int[] cobweb = new int[MOST_PORCHES];
        private final int[] master = new int[MOST_PORCHES];
        private final int[] sitting = new int[MOST_PORCHES];
        private final int[] tongue = new int[MOST_PERSONS];
        private final int[] ears = new int[MOST_PERSONS];
        private final int[] sits = new int[MOST_PERSONS];
        private final int[] stayed = new int[MOST_PERSONS];
        private final int[] toStay = new int[MOST_PERSONS];
        private final int[] said = new int[MOST_PERSONS];
        private final int[] heard = new int[MOST_PERSONS];
        private final int[] accepted = new int[MOST_PERSONS];

        boolean hasPorch(int porch) {
            return porch >= 0 && porch < porches;
        }

        boolean hasPerson(int person) {
            return person >= 0 && person < persons;
        }

        int addPorch(int seats, int oil) {
            if (porches >= MOST_PORCHES) return NONE;
            chairs[porches] = seats;
            lamp[porches] = oil;
            cobweb[porches] = 0;
            master[porches] = NONE;
            sitting[porches] = 0;
            porches++;
            return porches - 1;
        }

        int addPerson(int tongueOf, int earsOf) {
            if (persons >= MOST_PERSONS) return NONE;
            tongue[persons] = tongueOf;
            ears[persons] = earsOf;
            sits[persons] = NONE;
            stayed[persons] = 0;
            toStay[persons] = 0;
            said[persons] = 0;
            heard[persons] = 0;
            accepted[persons] = NONE;
            persons++;
            return persons - 1;
        }

        int sittersOf(int porch) {
            int sitters = 0;
            for (int i = 0; i < persons; i++) {
                if (sits[i] == porch) sitters |= 1 << i;
            }
            return sitters;
        }

        int allSitters() {
            int sitters = 0;
            for (int i = 0; i < persons; i++) {
                if (sits[i] != NONE) sitters |= 1 << i;
            }
            return sitters;
        }

        int allAccepted() {
            int all = 0;
            for (int i = 0; i < persons; i++) {
                if (accepted[i] != NONE) all |= 1 << i;
            }
            return all;
        }

        boolean hasFreeChair(int porch) {
            return hasPorch(porch) && sitting[porch] < chairs[porch];
        }

        void sitDown(int person, int porch, int minutesToStay) {
            if (!hasPerson(person) || !hasPorch(porch)) return;
            sits[person] = porch;
            stayed[person] = 0;
            toStay[person] = minutesToStay;
            sitting[porch]++;
        }

        void rise(int person) {
            if (!hasPerson(person) || !hasPorch(sits[person])) return;
            sitting[sits[person]]--;
            sits[person] = NONE;
            stayed[person] = 0;
            toStay[person] = 0;
        }

        /** A draw of m. */
        int draw(int m) {
            draws = 1664525 * draws + 1013904223;
            return m > 0 ? (draws >>> 8) % m : 0;
        }

        /** Of all together: what 0 said, 1 heard, 2 cobwebs, 3 lamps. */
        int sumOf(int what) {
            int sum = 0;
            for (int i = 0; i < persons; i++) {
                if (what == 0) sum += said[i];
                if (what == 1) sum += heard[i];
            }
            for (int i = 0; i < porches; i++) {
                if (what == 2) sum += cobweb[i];
                if (what == 3) sum += lamp[i];
            }
            return sum;
        }

        void copyFrom(Houses other) {
            draws = other.draws;
            minute = other.minute;
            evening = other.evening;
            swept = other.swept;
            porches = other.porches;
            persons = other.persons;
            System.arraycopy(other.chairs, 0, chairs, 0, MOST_PORCHES);
            System.arraycopy(other.lamp, 0, lamp, 0, MOST_PORCHES);
            System.arraycopy(other.cobweb, 0, cobweb, 0, MOST_PORCHES);
            System.arraycopy(other.master, 0, master, 0, MOST_PORCHES);
            System.arraycopy(other.sitting, 0, sitting, 0, MOST_PORCHES);
            System.arraycopy(other.tongue, 0, tongue, 0, MOST_PERSONS);
            System.arraycopy(other.ears, 0, ears, 0, MOST_PERSONS);
            System.arraycopy(other.sits, 0, sits, 0, MOST_PERSONS);
            System.arraycopy(other.stayed, 0, stayed, 0, MOST_PERSONS);
            System.arraycopy(other.toStay, 0, toStay, 0, MOST_PERSONS);
            System.arraycopy(other.said, 0, said, 0, MOST_PERSONS);
            System.arraycopy(other.heard, 0, heard, 0, MOST_PERSONS);
            System.arraycopy(other.accepted, 0, accepted, 0, MOST_PERSONS);
        }
    }

    /** The houses as they were before each of the latest things that can be undone. */
    private static final class Undone {
        private static final int MOST = 6;

        private final Houses[] kept = new Houses[MOST];
        private final int[] bookLines = new int[MOST];
        private int count = 0;
        private int next = 0;

        Undone() {
            for (int i = 0; i < MOST; i++) kept[i] = new Houses();
        }

        int size() {
            return count;
        }

        void keep(Houses now, int lines) {
            kept[next].copyFrom(now);
            bookLines[next] = lines;
            next = (next + 1) % MOST;
            if (count < MOST) count++;
        }

        void forget() {
            count = 0;
        }

        /** The houses become what they were; how many lines the book had then, NONE if nothing is kept. */
        int goBack(Houses now) {
            if (count == 0) return NONE;
            count--;
            next = (next + MOST - 1) % MOST;
            now.copyFrom(kept[next]);
            return bookLines[next];
        }
    }

    /** The bytes that a text is read from. */
    private static final class Tape {
        private final byte[] bytes = new byte[MOST_BYTES];
        private int length = 0;

        int length() {
            return length;
        }

        boolean hasRoom(int more) {
            return length + more <= MOST_BYTES;
        }

        void append(int four) {
            if (!hasRoom(4)) return;
            bytes[length] = (byte) (four >> 24);
            bytes[length + 1] = (byte) (four >> 16);
            bytes[length + 2] = (byte) (four >> 8);
            bytes[length + 3] = (byte) four;
            length += 4;
        }

        boolean cut(int n) {
            if (n < 0 || n > length) return false;
            length = n;
            return true;
        }

        /** The byte at a place, 0 to 255; NONE behind the end. */
        int at(int place) {
            return place >= 0 && place < length ? bytes[place] & 255 : NONE;
        }
    }

    /**
     * The tokens of the tape. A sign's kind is its byte, so the other kinds stand above all bytes;
     * what is no token at all is a kind that stands nowhere.
     */
    private static final class Tokens {
        private static final int AT_END = 256;
        private static final int NUMBER = 257;
        private static final int NOTHING = 258;
        private static final int SPEAKS = 260;
        private static final int HEARS = 261;
        private static final int SPINS = 262;
        private static final int WHEN = 263;
        private static final int OR = 264;
        private static final int AND = 265;
        private static final int NOT = 266;
        private static final int TONGUE = 270;
        private static final int EARS = 271;
        private static final int SITTING = 272;
        private static final int STAYED = 273;
        private static final int LAMP = 274;
        private static final int COBWEB = 275;
        private static final int MINUTE = 276;
        private static final int SAID = 277;
        private static final int HEARD = 278;
        private static final int EVENING = 279;
        private static final int PERSON = 280;
        private static final int AT = 281;
        private static final int ON = 282;
        private static final int FOR = 283;
        private static final int IN = 284;
        private static final int OIL = 285;
        private static final int SWEEP = 286;
        private static final int RAIN = 287;
        private static final int MASTER = 288;
        private static final int PORCH = 289;
        private static final int BY = 290;
        private static final int MOST_DIGITS = 4;

        private final Tape tape;
        private final int[] kinds = new int[MOST_BYTES + 1];
        private final int[] numbers = new int[MOST_BYTES + 1];
        private final int[] places = new int[MOST_BYTES + 1];
        private int count = 0;
        private int now = 0;

        Tokens(Tape tape) {
            this.tape = tape;
        }

        int kind() {
            return kinds[now];
        }

        int number() {
            return numbers[now];
        }

        int place() {
            return places[now];
        }

        /** To the next one; behind the last one stands the end, and there it stays. */
        void advance() {
            if (now < count) now++;
        }

        void scan() {
            count = 0;
            now = 0;
            int place = 0;
            for (int i = 0; i < MOST_BYTES && place < tape.length(); i++) {
                int behind = behind(place);
                if (!isBlank(tape.at(place))) note(place, behind);
                place = behind;
            }
            kinds[count] = AT_END;
            places[count] = tape.length();
        }

        private int behind(int place) {
            int behind = place + 1;
            if (isDigit(tape.at(place))) {
                while (behind < MOST_BYTES && isDigit(tape.at(behind))) behind++;
            } else if (isLetter(tape.at(place))) {
                while (behind < MOST_BYTES && isLetter(tape.at(behind))) behind++;
            }
            return behind;
        }

        private void note(int place, int behind) {
            if (count >= MOST_BYTES) return;
            int first = tape.at(place);
            kinds[count] = first;
            numbers[count] = 0;
            places[count] = place;
            if (isLetter(first)) kinds[count] = wordOf(place, behind);
            if (isDigit(first)) {
                boolean fits = behind - place <= MOST_DIGITS;
                kinds[count] = fits ? NUMBER : NOTHING;
                for (int i = place; fits && i < behind; i++) numbers[count] = 10 * numbers[count] + tape.at(i) - '0';
            }
            count++;
        }

        private static boolean isBlank(int c) {
            return c == 32 || c == 10;
        }

        private static boolean isDigit(int c) {
            return c >= '0' && c <= '9';
        }

        private static boolean isLetter(int c) {
            return c >= 'a' && c <= 'z' || c >= 'A' && c <= 'Z';
        }

        private boolean spells(int place, int behind, String word) {
            if (behind - place != word.length()) return false;
            for (int i = 0; i < word.length(); i++) {
                if (tape.at(place + i) != word.charAt(i)) return false;
            }
            return true;
        }

        private int wordOf(int place, int behind) {
            if (spells(place, behind, "speaks")) return SPEAKS;
            if (spells(place, behind, "hears")) return HEARS;
            if (spells(place, behind, "spins")) return SPINS;
            if (spells(place, behind, "when")) return WHEN;
            if (spells(place, behind, "or")) return OR;
            if (spells(place, behind, "and")) return AND;
            if (spells(place, behind, "not")) return NOT;
            if (spells(place, behind, "person")) return PERSON;
            if (spells(place, behind, "at")) return AT;
            if (spells(place, behind, "on")) return ON;
            if (spells(place, behind, "for")) return FOR;
            if (spells(place, behind, "in")) return IN;
            if (spells(place, behind, "oil")) return OIL;
            if (spells(place, behind, "sweep")) return SWEEP;
            if (spells(place, behind, "rain")) return RAIN;
            if (spells(place, behind, "master")) return MASTER;
            if (spells(place, behind, "porch")) return PORCH;
            if (spells(place, behind, "by")) return BY;
            return nounOf(place, behind);
        }

        private int nounOf(int place, int behind) {
            if (spells(place, behind, "tongue")) return TONGUE;
            if (spells(place, behind, "ears")) return EARS;
            if (spells(place, behind, "sitting")) return SITTING;
            if (spells(place, behind, "stayed")) return STAYED;
            if (spells(place, behind, "lamp")) return LAMP;
            if (spells(place, behind, "cobweb")) return COBWEB;
            if (spells(place, behind, "minute")) return MINUTE;
            if (spells(place, behind, "said")) return SAID;
            if (spells(place, behind, "heard")) return HEARD;
            if (spells(place, behind, "evening")) return EVENING;
            return NOTHING;
        }
    }

    /** Reads a text from the tape into drafts, up to its first fault. */
    private static final class Reader {
        private static final int FAULT_PLACE = 1;
        private static final int FAULT_BOUNDS = 2;
        private static final int FAULT_TOO_MANY = 3;
        private static final int MOST_OPEN = 8;

        private final Tokens tokens;
        private final Houses houses;
        private final Row lines = new Row(4, MOST_LINES);
        private final Row code = new Row(1, MOST_BYTES);
        // What is open, with at most an "and" and an "or" that wait inside of each and outside.
        private final int[] waiting = new int[3 * MOST_OPEN + 4];
        private int waits = 0;
        private int open = 0;
        private int fault = 0;
        private int faultAt = NONE;

        Reader(Tape tape, Houses houses) {
            tokens = new Tokens(tape);
            this.houses = houses;
        }

        int faultKind() {
            return fault;
        }

        int faultPlace() {
            return faultAt;
        }

        Row draft() {
            return lines;
        }

        Row draftCode() {
            return code;
        }

        boolean read(int k) {
            fault = 0;
            faultAt = NONE;
            if (!within(k, TEXT_LAW, TEXT_STREET)) return false;
            lines.clear();
            code.clear();
            tokens.scan();
            boolean good = true;
            for (int i = 0; i <= MOST_LINES && good && tokens.kind() != Tokens.AT_END; i++) {
                if (k == TEXT_LAW) good = readLawLine();
                if (k == TEXT_CALLS) good = readCall();
                if (k == TEXT_EVENINGS) good = readEvening();
                if (k == TEXT_STREET) good = readStreetLine();
            }
            // no token is passed behind a fault, so it is where the reading stopped
            if (!good) faultAt = tokens.place();
            return good;
        }

        private boolean refuse(int kind) {
            fault = kind;
            return false;
        }

        private boolean take(int kind) {
            if (tokens.kind() != kind) return refuse(FAULT_PLACE);
            tokens.advance();
            return true;
        }

        /** The word that begins a line: at its place a line too many is refused. */
        private boolean beginLine(int kind) {
            if (tokens.kind() != kind) return refuse(FAULT_PLACE);
            if (lines.isFull()) return refuse(FAULT_TOO_MANY);
            tokens.advance();
            return true;
        }

        /** The number that stands here, within its bounds and not the unlike one; NONE behind a fault. */
        private int takeNumber(int least, int most, int unlike) {
            int number = tokens.number();
            boolean fits = within(number, least, most) && number != unlike;
            if (tokens.kind() != Tokens.NUMBER || !fits) {
                refuse(tokens.kind() == Tokens.NUMBER ? FAULT_BOUNDS : FAULT_PLACE);
                return NONE;
            }
            tokens.advance();
            return number;
        }

        private int takePorch() {
            return takeNumber(0, houses.porches - 1, NONE);
        }

        private int takePerson() {
            return takeNumber(0, houses.persons - 1, NONE);
        }

        private int takeMinute() {
            return takeNumber(0, MINUTES_OF_EVENING - 1, NONE);
        }

        private boolean readCall() {
            if (!beginLine(Tokens.PERSON)) return false;
            int person = takePerson();
            if (person == NONE || !take(Tokens.AT)) return false;
            int minute = takeMinute();
            if (minute == NONE || !take(Tokens.ON)) return false;
            int porch = takePorch();
            if (porch == NONE || !take(Tokens.FOR)) return false;
            int toStay = takeNumber(1, MINUTES_OF_EVENING, NONE);
            if (toStay == NONE || !take(';')) return false;
            return lines.add(person, minute, porch, toStay, 0) != NONE;
        }

        private boolean readEvening() {
            if (!beginLine(Tokens.IN)) return false;
            int evening = takeNumber(0, 999, NONE);
            if (evening == NONE) return false;
            int what = tokens.kind();
            if (!within(what, Tokens.OIL, Tokens.MASTER)) return refuse(FAULT_PLACE);
            tokens.advance();
            int first = what == Tokens.RAIN ? takeMinute() : takePorch();
            if (first == NONE) return false;
            int second = 0;
            if (what == Tokens.OIL) second = takeNumber(0, MOST_LAMP, NONE);
            if (what == Tokens.MASTER) second = takePerson();
            if (second == NONE || !take(';')) return false;
            return lines.add(evening, what, first, second, 0) != NONE;
        }

        private boolean readStreetLine() {
            if (!beginLine(Tokens.PORCH)) return false;
            int one = takePorch();
            if (one == NONE || !take(Tokens.BY)) return false;
            int other = takeNumber(0, houses.porches - 1, one);
            if (other == NONE) return false;
            int feet = takeNumber(1, 99, NONE);
            if (feet == NONE || !take(';')) return false;
            return lines.add(one, other, feet, 0, 0) != NONE;
        }

        private boolean readLawLine() {
            int word = tokens.kind();
            if (!within(word, Tokens.SPEAKS, Tokens.SPINS)) return refuse(FAULT_PLACE);
            if (!beginLine(word)) return false;
            int from = code.size();
            if (!readSum()) return false;
            int middle = code.size();
            if (tokens.kind() == Tokens.WHEN) {
                tokens.advance();
                if (!readConditions()) return false;
            }
            if (!take(';')) return false;
            return lines.add(word, from, middle, code.size(), 0) != NONE;
        }

        /** E: a product's sign is noted at once, a sum's sign waits for the whole product behind it. */
        private boolean readSum() {
            int sum = NONE;
            int product = NONE;
            for (int i = 0; i < MOST_BYTES; i++) {
                if (!readOperand(product == '/')) return false;
                if (product != NONE) code.add(-product);
                product = tokens.kind();
                if (product != '*' && product != '/') {
                    if (sum != NONE) code.add(-sum);
                    sum = product;
                    product = NONE;
                    if (sum != '+' && sum != '-') return true;
                }
                tokens.advance();
            }
            return false;
        }

        private boolean readOperand(boolean divisor) {
            int kind = tokens.kind();
            boolean noun = !divisor && within(kind, Tokens.TONGUE, Tokens.EVENING);
            if (kind != Tokens.NUMBER && !noun) return refuse(FAULT_PLACE);
            if (divisor && tokens.number() == 0) return refuse(FAULT_BOUNDS);
            code.add(noun ? -kind : tokens.number());
            tokens.advance();
            return true;
        }

        /** B: comparisons, before each what it opens, behind each what it closes and what joins it. */
        private boolean readConditions() {
            waits = 0;
            open = 0;
            for (int i = 0; i < MOST_BYTES; i++) {
                if (!readOpenings() || !readComparison() || !readClosings()) return false;
                int join = tokens.kind();
                if (join != Tokens.AND && join != Tokens.OR) {
                    noteDown(Tokens.OR);
                    return waits == 0 || refuse(FAULT_PLACE);
                }
                noteDown(join);
                putOff(join);
                tokens.advance();
            }
            return false;
        }

        private boolean readOpenings() {
            for (int i = 0; i <= MOST_OPEN; i++) {
                int kind = tokens.kind();
                if (kind != '(' && kind != Tokens.NOT) return true;
                if (open >= MOST_OPEN) return refuse(FAULT_TOO_MANY);
                putOff(kind);
                open++;
                tokens.advance();
            }
            return true;
        }

        private boolean readComparison() {
            if (!readSum()) return false;
            int sign = tokens.kind();
            if (sign != '<' && sign != '=' && sign != '>') return refuse(FAULT_PLACE);
            tokens.advance();
            if (!readSum()) return false;
            code.add(-sign);
            return true;
        }

        private boolean readClosings() {
            noteDown(Tokens.NOT);
            for (int i = 0; i <= MOST_OPEN && tokens.kind() == ')'; i++) {
                noteDown(Tokens.OR);
                if (waits == 0) return refuse(FAULT_PLACE);
                waits--;
                open--;
                noteDown(Tokens.NOT);
                tokens.advance();
            }
            return true;
        }

        private void putOff(int kind) {
            if (waits >= waiting.length) return;
            waiting[waits] = kind;
            waits++;
        }

        /** All that waits, back to a (, and binds as much as this one; the kinds go up as they bind. */
        private void noteDown(int least) {
            while (waits > 0 && waiting[waits - 1] >= least) {
                waits--;
                if (waiting[waits] == Tokens.NOT) open--;
                code.add(-waiting[waits]);
            }
        }
    }

    /**
     * What the law tells of a person and a porch. Its code has the operands first: numbers as
     * they are, all else as its token's kind below 0.
     */
    private static final class Law {
        private static final int NOUNS = 10;

        private final Houses houses;
        private final Row lines;
        private final Row code;
        private final int[] nouns = new int[NOUNS];
        // At most an "and" and an "or" wait in each of nine, then a sum and a product at each side.
        private final int[] stack = new int[40];

        Law(Houses houses, Told told) {
            this.houses = houses;
            lines = told.lawLines;
            code = told.lawCode;
        }

        /** For spins the person is NONE. */
        int tells(int word, int person, int porch) {
            lookAt(person, porch);
            for (int i = 0; i < lines.size(); i++) {
                if (lines.get(i, 0) != word) continue;
                int middle = lines.get(i, 2);
                int behind = lines.get(i, 3);
                if (middle < behind && value(middle, behind) == 0) continue;
                int most = word == Tokens.SPINS ? 9 : 1000;
                return Math.max(0, Math.min(most, value(lines.get(i, 1), middle)));
            }
            if (word == Tokens.SPEAKS) return 60 * nouns[0];
            return word == Tokens.HEARS ? 100 * nouns[1] : 1;
        }

        /** The nouns in the order of their tokens. */
        private void lookAt(int person, int porch) {
            Arrays.fill(nouns, 0);
            if (houses.hasPerson(person)) {
                nouns[0] = houses.tongue[person];
                nouns[1] = houses.ears[person];
                nouns[3] = houses.stayed[person];
                nouns[7] = houses.said[person];
                nouns[8] = houses.heard[person];
            }
            if (houses.hasPorch(porch)) {
                nouns[2] = houses.sitting[porch];
                nouns[4] = houses.lamp[porch];
                nouns[5] = houses.cobweb[porch];
            }
            nouns[6] = houses.minute;
            nouns[9] = houses.evening;
        }

        private int value(int from, int behind) {
            int top = 0;
            for (int i = from; i < behind; i++) {
                int cell = code.get(i, 0);
                int noun = -cell - Tokens.TONGUE;
                if (cell >= 0 || within(noun, 0, NOUNS - 1)) {
                    if (top >= stack.length) return 0;
                    stack[top] = cell >= 0 ? cell : nouns[noun];
                    top++;
                } else if (cell == -Tokens.NOT) {
                    if (top < 1) return 0;
                    stack[top - 1] = stack[top - 1] == 0 ? 1 : 0;
                } else {
                    if (top < 2) return 0;
                    top--;
                    stack[top - 1] = joined(-cell, stack[top - 1], stack[top]);
                }
            }
            return top > 0 ? stack[top - 1] : 0;
        }

        /** What is so counts 1, what is not so 0. */
        private static int joined(int sign, int a, int b) {
            boolean so = false;
            switch (sign) {
                case '+': return a + b;
                case '-': return a - b;
                case '*': return a * b;
                case '/': return b == 0 ? 0 : a / b;
                case '<': so = a < b; break;
                case '=': so = a == b; break;
                case '>': so = a > b; break;
                case Tokens.AND: so = a != 0 && b != 0; break;
                case Tokens.OR: so = a != 0 || b != 0; break;
                default: break;
            }
            return so ? 1 : 0;
        }
    }

    /** How a minute goes by, indeed or in thought. */
    private static final class Hours {
        private static final int LIKELY_IN_THOUGHT = 500;

        private final Houses houses;
        private final Told told;
        private final Law law;
        private final Row diary;
        private boolean inThought = false;

        Hours(Houses houses, Told told, Law law, Row diary) {
            this.houses = houses;
            this.told = told;
            this.law = law;
            this.diary = diary;
        }

        /** A minute: how often one spoke. In thought nothing is drawn and nothing written. */
        int pass(boolean thought) {
            inThought = thought;
            if (houses.minute == 0) beginEvening();
            followCalls();
            letItRain();
            int spoken = 0;
            for (int person = 0; person < houses.persons; person++) {
                if (speaksNow(person)) spoken++;
            }
            stayOrRise();
            burnLamps();
            spinCobwebs();
            turnClock();
            inThought = false;
            return spoken;
        }

        void takeSeat(int person, int porch, int toStay) {
            houses.sitDown(person, porch, toStay);
            write(BOOK_SAT, person, porch);
        }

        void sweepPorch(int porch) {
            if (!houses.hasPorch(porch)) return;
            write(BOOK_SWEPT, porch, houses.cobweb[porch]);
            houses.cobweb[porch] = 0;
            houses.swept++;
        }

        private void write(int what, int who, int howMuch) {
            if (!inThought) diary.add(houses.evening, houses.minute, what, who, howMuch);
        }

        private boolean happens(int odds) {
            if (odds <= 0) return false;
            return inThought ? odds >= LIKELY_IN_THOUGHT : houses.draw(1000) < odds;
        }

        private void beginEvening() {
            for (int i = 0; i < told.evenings.size(); i++) {
                if (told.evenings.get(i, 0) != houses.evening) continue;
                int what = told.evenings.get(i, 1);
                int porch = told.evenings.get(i, 2);
                if (what == Tokens.RAIN || !houses.hasPorch(porch)) continue;
                if (what == Tokens.OIL) houses.lamp[porch] = told.evenings.get(i, 3);
                if (what == Tokens.SWEEP) sweepPorch(porch);
                if (what == Tokens.MASTER) houses.master[porch] = told.evenings.get(i, 3);
            }
        }

        private void followCalls() {
            for (int i = 0; i < told.calls.size(); i++) {
                if (told.calls.get(i, 1) != houses.minute) continue;
                int person = told.calls.get(i, 0);
                int porch = told.calls.get(i, 2);
                boolean free = houses.hasPerson(person) && houses.sits[person] == NONE;
                if (free && houses.hasFreeChair(porch)) takeSeat(person, porch, told.calls.get(i, 3));
            }
        }

        private void letItRain() {
            boolean rains = false;
            for (int i = 0; i < told.evenings.size(); i++) {
                boolean now = told.evenings.get(i, 0) == houses.evening && told.evenings.get(i, 2) == houses.minute;
                if (now && told.evenings.get(i, 1) == Tokens.RAIN) rains = true;
            }
            for (int person = 0; rains && person < houses.persons; person++) {
                int porch = houses.sits[person];
                if (houses.hasPorch(porch) && houses.cobweb[porch] > WETTING_COBWEB) houses.rise(person);
            }
        }

        private boolean speaksNow(int person) {
            int porch = houses.sits[person];
            if (porch == NONE || !happens(law.tells(Tokens.SPEAKS, person, porch))) return false;
            houses.said[person]++;
            int hearers = 0;
            for (int other = 0; other < houses.persons; other++) {
                if (other != person && hearsNow(other, person, porch)) hearers++;
            }
            write(BOOK_SPOKE, person, hearers);
            return true;
        }

        private boolean hearsNow(int person, int speaker, int porch) {
            int place = houses.sits[person];
            if (place == NONE) return false;
            if (place != porch) {
                int feet = told.feet(porch, place);
                if (feet == NONE || feet > NEXT_DOOR_FEET) return false;
                if (!happens(law.tells(Tokens.HEARS, person, porch))) return false;
                write(BOOK_OVERHEARD, person, speaker);
            }
            houses.heard[person]++;
            return true;
        }

        private void stayOrRise() {
            for (int person = 0; person < houses.persons; person++) {
                if (houses.sits[person] == NONE) continue;
                houses.stayed[person]++;
                if (houses.stayed[person] >= houses.toStay[person]) houses.rise(person);
            }
        }

        private void burnLamps() {
            for (int porch = 0; porch < houses.porches; porch++) {
                if (houses.lamp[porch] == 0) continue;
                houses.lamp[porch]--;
                if (houses.lamp[porch] == 0) acceptAt(porch);
            }
        }

        private void acceptAt(int porch) {
            int master = houses.master[porch];
            if (!houses.hasPerson(master) || houses.sits[master] != porch) return;
            for (int person = 0; person < houses.persons; person++) {
                boolean guest = houses.sits[person] == porch && person != master;
                if (!guest || houses.accepted[person] != NONE) continue;
                houses.accepted[person] = master;
                write(BOOK_ACCEPTED, person, master);
            }
        }

        private void spinCobwebs() {
            for (int porch = 0; porch < houses.porches; porch++) {
                if (houses.sitting[porch] > 0) continue;
                int more = law.tells(Tokens.SPINS, NONE, porch);
                houses.cobweb[porch] = Math.min(MOST_COBWEB, houses.cobweb[porch] + more);
            }
        }

        private void turnClock() {
            houses.minute++;
            if (houses.minute < MINUTES_OF_EVENING) return;
            houses.minute = 0;
            houses.evening++;
            for (int person = 0; person < houses.persons; person++) houses.rise(person);
        }
    }

    /** Five and five who would have one another: line 5 * side + i of the wishes is who i would have. */
    private static final class Couples {
        private static final int FIVE = 5;
        private static final int ALL_FIVE = 31;
        private static final int PAIRINGS = 120;

        private final Row wishes;
        private final int[] asked = new int[FIVE];
        private final int[] held = new int[FIVE];
        private final int[] pair = new int[FIVE];

        Couples(Row wishes) {
            this.wishes = wishes;
        }

        boolean change(int side, int i, int order) {
            if (order < 0 || order > 43210) return false;
            int first = order / 10000;
            int second = order / 1000 % 10;
            int third = order / 100 % 10;
            int fourth = order / 10 % 10;
            int fifth = order % 10;
            int all = 1 << first | 1 << second | 1 << third | 1 << fourth | 1 << fifth;
            if (all != ALL_FIVE) return false;
            wishes.change(FIVE * side + i, first, second, third, fourth, fifth);
            return true;
        }

        private int rank(int side, int i, int other) {
            for (int place = 0; place < FIVE; place++) {
                if (wishes.get(FIVE * side + i, place) == other) return place;
            }
            return FIVE;
        }

        private boolean prefers(int side, int i, int one, int other) {
            return rank(side, i, one) < rank(side, i, other);
        }

        int partner(int s, int i, int asking) {
            engage(asking);
            for (int other = 0; other < FIVE; other++) {
                if (s == asking && held[other] == i) return other;
                if (s != asking && other == i) return held[other];
            }
            return NONE;
        }

        private void engage(int asking) {
            Arrays.fill(asked, 0);
            Arrays.fill(held, NONE);
            for (int i = 0; i < FIVE; i++) {
                int free = i;
                // five times five wishes are all that can be asked
                for (int tries = 0; tries < FIVE * FIVE && free != NONE; tries++) free = ask(asking, free);
            }
        }

        /** The next dearest is asked: who is free then, NONE if nobody. */
        private int ask(int asking, int asker) {
            int dear = wishes.get(FIVE * asking + asker, asked[asker]);
            if (!within(dear, 0, FIVE - 1)) return NONE;
            asked[asker]++;
            int rival = held[dear];
            if (rival != NONE && prefers(1 - asking, dear, rival, asker)) return asker;
            held[dear] = asker;
            return rival;
        }

        int settled() {
            int ways = 0;
            for (int number = 0; number < PAIRINGS; number++) {
                pairUp(number);
                if (isSettled()) ways++;
            }
            return ways;
        }

        /** Each number below 120 tells by its parts how many that are still free each one passes over. */
        private void pairUp(int number) {
            int taken = 0;
            int rest = number;
            for (int i = 0; i < FIVE; i++) {
                pair[i] = freeOne(taken, rest % (FIVE - i));
                taken |= 1 << pair[i];
                rest /= FIVE - i;
            }
        }

        private static int freeOne(int taken, int passedOver) {
            int left = passedOver;
            for (int one = 0; one < FIVE; one++) {
                if ((taken >> one & 1) == 1) continue;
                if (left == 0) return one;
                left--;
            }
            return 0;
        }

        private boolean isSettled() {
            for (int i = 0; i < FIVE; i++) {
                for (int j = 0; j < FIVE; j++) {
                    if (i != j && prefers(0, i, pair[j], pair[i]) && prefers(1, pair[j], i, j)) return false;
                }
            }
            return true;
        }
    }

    /** All else that is only thought of; the rows are used again by one puzzle after the other. */
    private static final class Puzzles {
        private static final int SETS = 256;
        private static final int PLACES = 8;
        private static final int LAST_FORWARD = 9999;
        private static final int HEARD_MINUTES = 100;
        private static final int MOST_FAMILIES = 8;
        private static final int MOST_STEPS = 40;
        private static final int MOST_PACE = 5;
        private static final int CAN_BASE = 13;
        private static final int MOST_HATS = 9;

        private final Told told;
        private final int[] sums = new int[SETS];
        private final int[] ofSets = new int[SETS];
        private final int[] seatings = new int[SETS * PLACES];
        private final int[] arrives = new int[MOST_PORCHES];
        private final int[] enemies = new int[PLACES];
        private final long[] climbs = new long[MOST_STEPS + 1];
        private final long[] paths = new long[13];
        private final int[] pourings = new int[CAN_BASE * CAN_BASE];
        private final int[] queue = new int[CAN_BASE * CAN_BASE];
        private final int[] cans = new int[3];
        private final int[] sizes = new int[3];
        private final int[] hats = new int[MOST_HATS];
        private final int[] rising = new int[MOST_HATS];
        private int queued = 0;

        Puzzles(Told told) {
            this.told = told;
        }

        /** Chair by chair: the minutes at which all so far are forward come in even strides. */
        int allForward() {
            int minute = 0;
            int stride = 1;
            for (int i = 0; i < told.chairRows.size(); i++) {
                int period = told.chairRows.get(i, 0);
                int first = told.chairRows.get(i, 1);
                if (period < 1) return NONE;
                for (int tries = 1; tries < period && minute % period != first; tries++) minute += stride;
                if (minute % period != first) return NONE;
                stride = commonStride(stride, period);
            }
            return minute <= LAST_FORWARD ? minute : NONE;
        }

        /** The least multiple of both. */
        private static int commonStride(int stride, int period) {
            int common = stride;
            for (int times = 1; times < period && common % period != 0; times++) common += stride;
            return common;
        }

        int mostForward() {
            int most = 0;
            for (int minute = 0; minute < HEARD_MINUTES; minute++) {
                int forward = 0;
                for (int i = 0; i < told.chairRows.size(); i++) {
                    int period = told.chairRows.get(i, 0);
                    if (period > 0 && minute % period == told.chairRows.get(i, 1)) forward++;
                }
                most = Math.max(most, forward);
            }
            return most;
        }

        int carried(int from, int minute, int to) {
            Arrays.fill(arrives, NONE);
            if (!within(from, 0, PLACES - 1) || !within(to, 0, PLACES - 1)) return NONE;
            arrives[from] = minute;
            // one round for each way: no reply needs more ways than there are
            for (int round = 0; round < told.catWays.size(); round++) {
                for (int i = 0; i < told.catWays.size(); i++) carryOn(i);
            }
            return arrives[to];
        }

        private void carryOn(int way) {
            int from = told.catWays.get(way, 0);
            int to = told.catWays.get(way, 1);
            int comes = told.catWays.get(way, 3);
            if (!within(from, 0, PLACES - 1) || !within(to, 0, PLACES - 1)) return;
            if (arrives[from] == NONE || arrives[from] > told.catWays.get(way, 2)) return;
            if (arrives[to] == NONE || comes < arrives[to]) arrives[to] = comes;
        }

        /** How many come with each set of the families: the set of all of them. */
        private int countFamilies() {
            sums[0] = 0;
            int n = Math.min(MOST_FAMILIES, told.families.size());
            for (int i = 0; i < n; i++) {
                int bit = 1 << i;
                for (int set = bit; set < 2 * bit; set++) sums[set] = sums[set - bit] + told.families.get(i, 0);
            }
            return (1 << n) - 1;
        }

        int fewestShelters(int room) {
            int all = countFamilies();
            ofSets[0] = 0;
            for (int set = 1; set <= all; set++) {
                int fewest = NONE;
                for (int part = set; part > 0; part = (part - 1) & set) {
                    int others = ofSets[set - part];
                    if (sums[part] > room || others == NONE) continue;
                    if (fewest == NONE || others + 1 < fewest) fewest = others + 1;
                }
                ofSets[set] = fewest;
            }
            return ofSets[all];
        }

        int waysToShelter(int room, int porches) {
            int all = countFamilies();
            Arrays.fill(ofSets, 0);
            ofSets[0] = 1;
            for (int i = 0; i < porches; i++) {
                // from the greatest set down, so that the lesser ones still stand without this porch
                for (int set = all; set >= 0; set--) ofSets[set] = shelterOneMore(set, room);
            }
            return ofSets[all];
        }

        private int shelterOneMore(int set, int room) {
            long ways = ofSets[set];
            for (int part = set; part > 0; part = (part - 1) & set) {
                if (sums[part] <= room) ways += ofSets[set - part];
            }
            return (int) (ways % PRIME);
        }

        int fewestShovels() {
            int n = told.boards.size();
            if (n == 0) return 0;
            int sum = 0;
            for (int i = 0; i < n; i++) sum += told.boards.get(i, 0);
            if (sum % n != 0) return NONE;
            int over = 0;
            int shovels = 0;
            for (int i = 0; i < n; i++) {
                over += told.boards.get(i, 0) - sum / n;
                shovels += Math.abs(over);
            }
            return shovels;
        }

        int ditch() {
            int water = 0;
            for (int i = 0; i < told.boards.size(); i++) {
                int left = 0;
                int right = 0;
                for (int j = 0; j <= i; j++) left = Math.max(left, told.boards.get(j, 0));
                for (int j = i; j < told.boards.size(); j++) right = Math.max(right, told.boards.get(j, 0));
                water += Math.min(left, right) - told.boards.get(i, 0);
            }
            return water;
        }

        int deepest() {
            int depth = 0;
            int most = 0;
            for (int i = 0; i < told.words.size(); i++) {
                int word = told.words.get(i, 0);
                if (word == 1) depth++;
                if (word == 2 && depth > 0) depth--;
                most = Math.max(most, depth);
            }
            return most;
        }

        int firstUnbegun() {
            int depth = 0;
            for (int i = 0; i < told.words.size(); i++) {
                int word = told.words.get(i, 0);
                if (word == 2 && depth == 0) return i;
                if (word == 1) depth++;
                if (word == 2) depth--;
            }
            return NONE;
        }

        int waysOfMatters(int n) {
            long ways = 1;
            for (int i = 0; i < n; i++) ways = ways * 2 * (2 * i + 1) / (i + 2);
            return (int) ways;
        }

        /** In how many ways the talk heard is told by the two: paths[j] with j words of the second so far. */
        int waysHeard() {
            int first = told.firstTalk.size();
            int second = told.secondTalk.size();
            if (told.heardTalk.size() != first + second || second >= paths.length) return 0;
            for (int i = 0; i <= first; i++) {
                for (int j = 0; j <= second; j++) {
                    long ways = i == 0 && j == 0 ? 1 : 0;
                    int word = told.heardTalk.get(i + j - 1, 0);
                    if (i > 0 && told.firstTalk.get(i - 1, 0) == word) ways += paths[j];
                    if (j > 0 && told.secondTalk.get(j - 1, 0) == word) ways += paths[j - 1];
                    paths[j] = ways % PRIME;
                }
            }
            return (int) paths[second];
        }

        /** Who sit with the first one, half of all, so that the seats differ least. */
        int fairestSeat() {
            int n = told.weights.size();
            int best = 0;
            for (int seat = 1; seat < 1 << n; seat += 2) {
                if (2 * Integer.bitCount(seat) != n) continue;
                if (best == 0 || heavierBy(seat) < heavierBy(best)) best = seat;
            }
            return best;
        }

        int heavierBy(int seat) {
            int over = 0;
            for (int i = 0; i < told.weights.size(); i++) {
                int weight = told.weights.get(i, 0);
                over += (seat >> i & 1) == 1 ? weight : -weight;
            }
            return Math.abs(over);
        }

        private void findEnemies(int n) {
            Arrays.fill(enemies, 0);
            for (int i = 0; i < told.quarrels.size(); i++) {
                int a = told.quarrels.get(i, 0);
                int b = told.quarrels.get(i, 1);
                if (!within(a, 0, n - 1) || !within(b, 0, n - 1)) continue;
                enemies[a] |= 1 << b;
                enemies[b] |= 1 << a;
            }
        }

        /** Of 1 to 8. The seatings of a set and one of it: the ways in which it sits, this one last. */
        int waysToSit(int n, boolean round) {
            if (!within(n, 1, PLACES)) return NONE;
            findEnemies(n);
            int all = (1 << n) - 1;
            for (int set = 1; set <= all; set++) {
                for (int one = 0; one < n; one++) seatings[set * PLACES + one] = seatBehind(set, one, n, round);
            }
            int ways = 0;
            for (int one = 0; one < n; one++) {
                boolean quarrel = round && (enemies[0] >> one & 1) == 1;
                if (!quarrel) ways += seatings[all * PLACES + one];
            }
            return ways;
        }

        private int seatBehind(int set, int one, int n, boolean round) {
            if ((set >> one & 1) == 0) return 0;
            int others = set - (1 << one);
            if (others == 0) return round && one != 0 ? 0 : 1;
            int ways = 0;
            for (int before = 0; before < n; before++) {
                if ((enemies[one] >> before & 1) == 0) ways += seatings[others * PLACES + before];
            }
            return ways;
        }

        int lastToHear(int porch, int what) {
            if (!within(porch, 0, MOST_PORCHES - 1)) return NONE;
            Arrays.fill(arrives, NONE);
            arrives[porch] = 0;
            // no shortest way goes over more porches than there are
            for (int round = 0; round < MOST_PORCHES; round++) {
                for (int i = 0; i < told.street.size(); i++) {
                    walk(told.street.get(i, 0), told.street.get(i, 1), told.street.get(i, 2));
                    walk(told.street.get(i, 1), told.street.get(i, 0), told.street.get(i, 2));
                }
            }
            int last = porch;
            int reached = 0;
            for (int i = 0; i < MOST_PORCHES; i++) {
                if (arrives[i] != NONE) reached++;
                if (arrives[i] > arrives[last]) last = i;
            }
            if (what == 0) return last;
            return what == 1 ? arrives[last] : reached;
        }

        private void walk(int from, int to, int feet) {
            if (!within(from, 0, MOST_PORCHES - 1) || !within(to, 0, MOST_PORCHES - 1)) return;
            if (arrives[from] == NONE) return;
            int there = arrives[from] + feet;
            if (arrives[to] == NONE || there < arrives[to]) arrives[to] = there;
        }

        int waysUp(int n, int paces) {
            if (!within(n, 0, MOST_STEPS)) return NONE;
            climbs[0] = 1;
            for (int step = 1; step <= n; step++) {
                long ways = 0;
                for (int pace = 1; pace <= MOST_PACE; pace++) {
                    if (step >= pace && hasPace(paces, pace)) ways += climbs[step - pace];
                }
                climbs[step] = ways % PRIME;
            }
            return (int) climbs[n];
        }

        private static boolean hasPace(int paces, int pace) {
            return (paces >> (pace - 1) & 1) == 1;
        }

        /** A single pace is the first and the last one. */
        int waysUpAlike(int n, int paces) {
            int all = waysUp(n, paces);
            if (n <= 0 || n > MOST_STEPS) return all;
            long ways = 0;
            for (int pace = 1; pace <= MOST_PACE; pace++) {
                if (!hasPace(paces, pace)) continue;
                if (n == pace) ways++;
                if (n >= 2 * pace) ways += climbs[n - 2 * pace];
            }
            return (int) (ways % PRIME);
        }

        /** The first can holds what the others don't, so these two tell how all is. */
        int fewestPourings(int a, int b, int c, int q) {
            sizes[0] = a;
            sizes[1] = b;
            sizes[2] = c;
            Arrays.fill(pourings, NONE);
            queued = 0;
            enqueue(0, 0);
            for (int i = 0; i < queued && i < queue.length; i++) {
                int now = queue[i];
                if (!within(now, 0, pourings.length - 1)) continue;
                seeCans(now);
                if (cans[0] == q || cans[1] == q || cans[2] == q) return pourings[now];
                for (int from = 0; from < 3; from++) {
                    for (int to = 0; to < 3; to++) {
                        if (from != to) pour(now, from, to);
                    }
                }
            }
            return NONE;
        }

        private void seeCans(int how) {
            cans[1] = how / CAN_BASE;
            cans[2] = how % CAN_BASE;
            cans[0] = sizes[0] - cans[1] - cans[2];
        }

        private void pour(int before, int from, int to) {
            seeCans(before);
            int much = Math.min(cans[from], sizes[to] - cans[to]);
            cans[from] -= much;
            cans[to] += much;
            enqueue(cans[1] * CAN_BASE + cans[2], pourings[before] + 1);
        }

        private void enqueue(int how, int pouring) {
            if (!within(how, 0, pourings.length - 1) || queued >= queue.length) return;
            if (pourings[how] != NONE) return;
            pourings[how] = pouring;
            queue[queued] = how;
            queued++;
        }

        /** The hats of a row behind a 1: how many; NONE if they can't be. */
        int hang(int row) {
            int n = 0;
            int rest = row;
            for (int digits = 0; digits < MOST_HATS && rest >= 10; digits++) {
                rest /= 10;
                n++;
            }
            if (rest != 1 || n == 0) return NONE;
            int hung = 0;
            rest = row;
            for (int hook = n - 1; hook >= 0; hook--) {
                hats[hook] = rest % 10;
                hung |= 1 << hats[hook];
                rest /= 10;
            }
            return hung == (1 << n) - 1 ? n : NONE;
        }

        /** Hooks between may be left out. */
        int longestRising(int n) {
            int longest = 0;
            for (int i = 0; i < n && i < MOST_HATS; i++) {
                rising[i] = 1;
                for (int j = 0; j < i; j++) {
                    if (hats[j] < hats[i]) rising[i] = Math.max(rising[i], rising[j] + 1);
                }
                longest = Math.max(longest, rising[i]);
            }
            return longest;
        }

        int wrongCouples(int n) {
            int couples = 0;
            for (int i = 0; i < n; i++) couples += lesserBehind(i, n);
            return couples;
        }

        private int lesserBehind(int hook, int n) {
            int lesser = 0;
            for (int i = hook + 1; i < n && i < MOST_HATS; i++) {
                if (hats[i] < hats[hook]) lesser++;
            }
            return lesser;
        }

        int placeAmongAll(int n) {
            int place = 0;
            for (int i = 0; i < n; i++) place = place * (n - i) + lesserBehind(i, n);
            return place;
        }

        /** The least that wins from these two; NONE if none does. */
        int winningTake(int greater, int lesser) {
            if (lesser < 1) return NONE;
            for (int take = lesser; take <= greater; take += lesser) {
                int left = greater - take;
                if (left == 0 || !wins(Math.max(left, lesser), Math.min(left, lesser))) return take;
            }
            return NONE;
        }

        /** Who may choose how often to take, or ends it, wins; who can take but once hands on the rest. */
        private static boolean wins(int greater, int lesser) {
            int more = greater;
            int less = lesser;
            for (int turn = 0; turn < greater; turn++) {
                if (more >= 2 * less || more == less) return turn % 2 == 0;
                int left = more - less;
                more = less;
                less = left;
            }
            return false;
        }
    }
}
