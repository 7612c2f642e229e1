import java.util.ArrayList;
import java.util.Arrays;
import java.util.List;

/**
 * What is refused answers as told and leaves all else as it was, and so does what is only asked or thought: behind each
 * such call a street is looked at as a whole, beside one of the same making to which it was not said.
 */
public final class RefusedTest {
    private static final Due due = new Due("RefusedTest");

    private static final String[] ROWS = {"wishes(0, 0, 10234)", "wishes(1, 2, 43210)", "chair(4, 1)", "chair(6, 3)",
        "cat(0, 1, 310)", "cat(1, 2, 1220)", "family(4)", "family(3)", "family(3)", "board(1)", "board(5)", "board(0)",
        "board(6)", "talk(1)", "talk(1)", "talk(2)", "talk(0)", "half(0, 1)", "half(0, 2)", "half(1, 1)", "half(2, 1)",
        "half(2, 1)", "half(2, 2)", "swing(5)", "swing(3)", "swing(4)", "swing(9)", "quarrel(0, 1)", "quarrel(2, 3)"};

    private static final String[] HOUSES = {"porch(2, 9)", "porch(3, 0)", "porch(1, 40)", "person(5, 2)", "person(0, 9)",
        "person(9, 0)", "person(3, 3)", "person(7, 6)", "LAW: speaks tongue*90 when not stayed=1; hears 600; spins 2;",
        "CALLS: person 3 at 4 on 1 for 2;", "EVENINGS: in 0 oil 1 5; in 0 sweep 2; in 1 rain 3;",
        "STREET: porch 0 by 1 8; porch 1 by 2 11;", "set(0, 1, 33)", "set(1, 0, 0)", "set(1, 1, 2)", "state(12345)",
        "act(0, 4, 1)"};

    private static final String[] EVENTS = {"act(0, 0, 0) => 1", "act(0, 1, 0) => 1", "act(0, 2, 1) => 1", "minutes(2)",
        "act(2, 1, 0) => 1", "act(3, 2, 7) => 1", "TAPE: spins 7; hears 1000 #"};

    private static final String[] IMAGE = {"image(true) => 1"};

    public static void main(String[] args) {
        String[] street = join(HOUSES, ROWS, IMAGE, EVENTS);
        List<String> looks = looks(3, 5, 14);
        for (String call : WRONG) leavesAll("a street", street, call, "", looks);
        for (String call : ASKED) leavesAll("a street", street, call, "", looks);
        leavesAll("a street without an image", join(HOUSES, ROWS, EVENTS), "image(false) => 0", "", looks);
        leavesAll("a street with nothing to undo", join(HOUSES, ROWS, IMAGE, new String[] {"state(77)"}), "undo() => 0", "",
            looks);
        // taken anew, the image itself is another one: all else is looked at alone
        compare("a street whose image is taken anew", street, "image(true) => 1", "", looks);
        for (String call : FAULTS) leavesAll("a street", street, call, "end(0)", withoutFault(looks));
        for (String call : NOTHING) leavesAll("a new object", new String[0], call, "", looks(1, 1, 1));
        String[] crowd = crowd();
        for (String call : NO_ROOM) leavesAll("a crowd", crowd, call, "", looks(2, 3, 3));
        due.close();
    }

    private static String[] join(String[]... parts) {
        List<String> all = new ArrayList<>();
        for (String[] part : parts) all.addAll(Arrays.asList(part));
        return all.toArray(new String[0]);
    }

    /** All that can be looked at without a change. */
    private static List<String> looks(int porches, int persons, int lines) {
        List<String> all = new ArrayList<>();
        for (int what = 0; what <= 13; what++) all.add("look(" + what + ")");
        for (int p = 0; p < porches; p++) {
            for (int what = 0; what <= 5; what++) all.add("porchOf(" + p + ", " + what + ")");
            for (int q = 0; q < porches; q++) all.add("porchOf(" + p + ", " + (10 + q) + ")");
            for (int what = 0; what <= 2; what++) all.add("last(" + p + ", " + what + ")");
        }
        for (int i = 0; i < persons; i++) {
            for (int what = 0; what <= 7; what++) all.add("of(" + i + ", " + what + ")");
            for (int p = 0; p < porches; p++) all.add("hears(" + i + ", " + p + ")");
            all.add("soonest(" + i + ")");
        }
        for (int i = 0; i < lines; i++) {
            for (int what = 0; what <= 4; what++) all.add("book(" + i + ", " + what + ")");
        }
        for (int what = 0; what <= 3; what++) all.add("goes(60, " + what + ")");
        for (int i = 0; i < 5; i++) {
            for (int s = 0; s < 2; s++) all.add("matched(" + s + ", " + i + ", " + s + ")");
        }
        all.addAll(List.of("matched(NONE, 0, 0)", "rocks(0)", "rocks(1)", "reply(0, 3, 1)", "reply(0, 0, 2)", "reply(1, 5, 2)",
            "storm(6, NONE)", "storm(6, 2)", "storm(7, 3)", "level(0)", "level(1)", "talks(0)", "talks(1)", "halves(0)",
            "halves(1)",
            "swings(0)", "swings(1)", "seated(4, 0)", "seated(4, 1)", "fault(0)", "fault(1)"));
        return all;
    }

    /** What shows by changes: how full the rows are, what is on the TAPE, what can be undone, the image. */
    private static final List<String> CHANGES = List.of("chair(2, 0)", "cat(3, 4, 1099)", "family(1)", "board(2)", "talk(1)",
        "half(0, 3)", "half(1, 3)", "half(2, 3)", "swing(2)", "quarrel(4, 5)", "look(13)", "end(22)", "end(21)", "text(0)",
        "fault(0)", "fault(1)", "look(9)", "undo()", "look(5)", "look(8)", "undo()", "look(4)", "look(7)", "undo()",
        "look(2)", "look(6)", "undo()", "look(5)", "look(7)", "undo()", "look(8)", "undo()", "look(5)", "undo()", "look(2)",
        "porchOf(2, 1)", "porchOf(1, 2)", "act(0, 3, 2)", "minutes(5)", "look(8)", "look(7)", "book(5, 2)", "of(2, 4)",
        "of(3, 5)", "image(false)", "look(2)", "look(4)", "look(5)", "look(7)", "look(8)", "look(13)", "of(4, 2)",
        "of(2, 3)", "porchOf(0, 1)", "porchOf(2, 2)", "minutes(60)", "look(3)", "look(7)", "look(8)", "porchOf(1, 2)",
        "undo()", "look(2)", "porchOf(0, 5)", "person(1, 1)", "porch(1, 1)");

    private static List<String> withoutFault(List<String> looks) {
        List<String> all = new ArrayList<>(looks);
        all.removeAll(List.of("fault(0)", "fault(1)"));
        return all;
    }

    /** The control is what is said to the other street instead, if anything is. */
    private static void leavesAll(String where, String[] street, String call, String control, List<String> looks) {
        compare(where + ", then " + call, street, call, control, looks);
        compare(where + ", then " + call, street, call, control, CHANGES);
    }

    private static void compare(String name, String[] street, String call, String control, List<String> looks) {
        Run refused = new Run(due, name).does(street).does(call);
        Run other = new Run(due, name + " (not said)").does(street);
        if (!control.isEmpty()) other.does(control);
        for (String look : looks) due.is(name + ": " + look, refused.answer(look), other.answer(look));
    }

    /** What can't be, for each of what is told: too small, too large, far off, or no such one. */
    private static final String[] WRONG = {"porch(0, 5) => NONE", "porch(7, 5) => NONE", "porch(1, -1) => NONE",
        "porch(6, 100) => NONE", "porch(MIN, MAX) => NONE", "person(-1, 0) => NONE", "person(10, 0) => NONE",
        "person(0, -1) => NONE", "person(9, 10) => NONE", "person(MAX, MIN) => NONE", "set(0, 0, -1) => 0",
        "set(0, 0, 100) => 0", "set(0, 3, 5) => 0", "set(0, -1, 5) => 0", "set(1, 0, -2) => 0", "set(1, 0, 5) => 0",
        "set(1, 3, 0) => 0", "set(1, -1, NONE) => 0", "set(2, 0, -1) => 0", "set(2, 0, 10) => 0", "set(2, 5, 5) => 0",
        "set(2, -1, 5) => 0", "set(3, 0, -1) => 0", "set(3, 0, 10) => 0", "set(3, 5, 5) => 0", "set(3, -1, 5) => 0",
        "set(-1, 0, 1) => 0", "set(4, 0, 1) => 0", "set(MIN, 0, 1) => 0", "set(MAX, 0, 1) => 0", "act(0, 0, 1) => 0",
        "act(0, 0, 0) => 0", "act(0, 3, 0) => 0", "act(0, 3, 3) => 0", "act(0, 3, -1) => 0", "act(0, 5, 1) => 0",
        "act(0, -1, 1) => 0", "act(1, 3, 0) => 0", "act(1, 5, 0) => 0", "act(1, -1, 0) => 0", "act(2, 3, 0) => 0",
        "act(2, -1, 0) => 0", "act(3, 0, -1) => 0", "act(3, 0, 100) => 0", "act(3, 3, 5) => 0", "act(3, -1, 5) => 0",
        "act(-1, 0, 1) => 0", "act(4, 0, 1) => 0", "act(MIN, 0, 1) => 0", "act(MAX, 0, 1) => 0", "minutes(0) => NONE",
        "minutes(61) => NONE", "minutes(-1) => NONE", "minutes(MIN) => NONE", "minutes(MAX) => NONE", "end(22) => 0",
        "end(-1) => 0", "end(400) => 0", "end(MIN) => 0", "end(MAX) => 0", "end(21) => 1", "fault(-1) => NONE",
        "fault(2) => NONE", "fault(MIN) => NONE", "fault(MAX) => NONE", "porchOf(3, 0) => -2", "porchOf(-1, 0) => -2",
        "porchOf(0, -1) => -2", "porchOf(0, 6) => -2", "porchOf(0, 9) => -2", "porchOf(0, 13) => -2",
        "porchOf(MIN, MIN) => -2", "porchOf(MAX, MAX) => -2", "of(5, 0) => -2", "of(-1, 0) => -2", "of(0, -1) => -2",
        "of(0, 8) => -2", "of(MIN, MIN) => -2", "of(MAX, MAX) => -2", "hears(5, 0) => NONE", "hears(-1, 0) => NONE",
        "hears(0, 3) => NONE", "hears(0, -1) => NONE", "hears(MIN, MAX) => NONE", "book(-1, 0) => NONE",
        "book(150, 0) => NONE", "book(0, -1) => NONE", "book(0, 5) => NONE", "book(MIN, MAX) => NONE", "goes(0, 0) => NONE",
        "goes(61, 0) => NONE", "goes(1, -1) => NONE", "goes(1, 4) => NONE", "goes(MIN, MAX) => NONE", "soonest(5) => NONE",
        "soonest(-1) => NONE", "soonest(MIN) => NONE", "soonest(MAX) => NONE", "wishes(-1, 0, 1234) => 0",
        "wishes(2, 0, 1234) => 0", "wishes(0, -1, 1234) => 0", "wishes(0, 5, 1234) => 0", "wishes(0, 0, 1233) => 0",
        "wishes(0, 0, 12345) => 0", "wishes(0, 0, -1234) => 0", "wishes(0, 0, 43211) => 0", "wishes(0, 0, 101234) => 0",
        "wishes(0, 0, MIN) => 0", "wishes(0, 0, MAX) => 0", "matched(-2, 0, 0) => NONE", "matched(2, 0, 0) => NONE",
        "matched(0, -1, 0) => NONE", "matched(0, 5, 0) => NONE", "matched(0, 0, -1) => NONE", "matched(0, 0, 2) => NONE",
        "chair(0, 0) => NONE", "chair(31, 0) => NONE", "chair(-2, 0) => NONE", "chair(5, -1) => NONE", "chair(5, 5) => NONE",
        "rocks(-1) => NONE", "rocks(2) => NONE", "cat(8, 0, 105) => NONE", "cat(-2, 0, 105) => NONE",
        "cat(0, 8, 105) => NONE", "cat(0, -1, 105) => NONE", "cat(0, 1, 505) => NONE", "cat(0, 1, 504) => NONE",
        "cat(0, 1, 9999) => NONE", "cat(0, 1, -1) => NONE", "cat(0, 1, 10099) => NONE", "cat(0, 1, 0) => NONE",
        "cat(0, 1, MIN) => NONE", "cat(0, 1, MAX) => NONE", "reply(-1, 0, 0) => NONE", "reply(8, 0, 0) => NONE",
        "reply(0, -1, 0) => NONE", "reply(0, 100, 0) => NONE", "reply(0, 0, -1) => NONE", "reply(0, 0, 8) => NONE",
        "family(0) => NONE", "family(10) => NONE", "family(-2) => NONE", "family(MIN) => NONE", "family(MAX) => NONE",
        "storm(0, NONE) => NONE", "storm(31, NONE) => NONE", "storm(0, 1) => NONE", "storm(31, 1) => NONE",
        "storm(5, 0) => NONE", "storm(5, 5) => NONE", "storm(5, -2) => NONE", "storm(MAX, MIN) => NONE", "board(-2) => NONE",
        "board(100) => NONE", "board(MIN) => NONE", "board(MAX) => NONE", "level(-1) => NONE", "level(2) => NONE",
        "talk(-2) => NONE", "talk(3) => NONE", "talk(MIN) => NONE", "talk(MAX) => NONE", "talks(-1) => NONE",
        "talks(2) => NONE", "talks(9) => NONE", "talks(26) => NONE", "half(-1, 0) => NONE", "half(3, 0) => NONE",
        "half(3, NONE) => NONE", "half(-1, NONE) => NONE", "half(0, 10) => NONE", "half(1, -2) => NONE",
        "half(2, 10) => NONE", "halves(-1) => NONE", "halves(2) => NONE", "swing(0) => NONE", "swing(61) => NONE",
        "swing(-2) => NONE", "swing(MIN) => NONE", "swing(MAX) => NONE", "swings(-1) => NONE", "swings(2) => NONE",
        "quarrel(-2, 0) => NONE", "quarrel(8, 0) => NONE", "quarrel(0, NONE) => NONE", "quarrel(0, 8) => NONE",
        "quarrel(3, 3) => NONE", "seated(0, 0) => NONE", "seated(9, 0) => NONE", "seated(3, -1) => NONE",
        "seated(3, 2) => NONE", "last(3, 0) => NONE", "last(-1, 0) => NONE", "last(0, -1) => NONE", "last(0, 3) => NONE",
        "steps(-1, 1, 0) => NONE", "steps(41, 1, 0) => NONE", "steps(5, -1, 0) => NONE", "steps(5, 32, 0) => NONE",
        "steps(5, 1, -1) => NONE", "steps(5, 1, 2) => NONE", "lamps(0, 1, 1, 0) => NONE", "lamps(13, 1, 1, 0) => NONE",
        "lamps(1, 0, 1, 0) => NONE", "lamps(1, 13, 1, 0) => NONE", "lamps(1, 1, 0, 0) => NONE", "lamps(1, 1, 13, 0) => NONE",
        "lamps(1, 1, 1, -1) => NONE", "lamps(1, 1, 1, 13) => NONE", "hooks(1, 0) => NONE", "hooks(1022, 0) => NONE",
        "hooks(2012, 0) => NONE", "hooks(1012, 3) => NONE", "hooks(1012, -1) => NONE", "hooks(MIN, 0) => NONE",
        "hooks(MAX, 0) => NONE", "game(0, 1) => NONE", "game(1, 0) => NONE", "game(201, 1) => NONE", "game(1, 201) => NONE",
        "game(MIN, MAX) => NONE", "look(-1) => NONE", "look(14) => NONE", "look(MIN) => NONE", "look(MAX) => NONE"};

    /** What is only asked, or thought, stays nowhere. */
    private static final String[] ASKED = {"goes(1, 0)", "goes(60, 1)", "goes(60, 2)", "goes(60, 3)", "soonest(0)",
        "soonest(1)", "soonest(4)", "porchOf(0, 5)", "porchOf(0, 11) => 8", "of(0, 7)", "hears(0, 1) => 600",
        "book(0, 2) => 0", "matched(0, 0, 0)", "matched(1, 0, 1)", "matched(NONE, 0, 0)", "rocks(0) => 9", "rocks(1) => 2",
        "reply(0, 0, 2) => 20", "storm(6, NONE) => 2", "storm(6, 4)", "level(0) => 5", "level(1) => 5", "talks(0) => 2",
        "talks(1) => NONE", "talks(25) => 9694845", "halves(0) => 1", "halves(1) => 2", "swings(0) => 3", "swings(1)",
        "seated(8, 0)", "seated(8, 1)", "last(0, 0) => 2", "last(2, 1) => 19", "steps(40, 31, 0)", "steps(40, 31, 1)",
        "lamps(12, 7, 5, 6) => 10", "hooks(1876543210, 2) => 362879", "game(200, 124) => NONE", "fault(0) => 0",
        "fault(1) => NONE", "look(13) => 6"};

    /** A text with a fault, or that there is not: the TEXT stays, the TAPE is empty. */
    private static final String[] FAULTS = {"text(0) => NONE", "text(1) => NONE", "text(2) => NONE", "text(3) => NONE",
        "text(4) => NONE", "text(-1) => NONE", "text(MIN) => NONE", "text(MAX) => NONE"};

    private static final String[] NOTHING = {"set(0, 0, 0) => 0", "set(1, 0, NONE) => 0", "set(2, 0, 0) => 0",
        "set(3, 0, 0) => 0", "act(0, 0, 0) => 0", "act(1, 0, 0) => 0", "act(2, 0, 0) => 0", "act(3, 0, 0) => 0",
        "end(1) => 0", "end(0) => 1", "porchOf(0, 0) => -2", "of(0, 0) => -2", "hears(0, 0) => NONE", "book(0, 0) => NONE",
        "soonest(0) => NONE", "goes(60, 0) => 0", "goes(60, 2) => 0", "goes(60, 3) => 0", "last(0, 2) => NONE",
        "undo() => 0", "image(false) => 0", "text(4) => NONE", "text(0) => 0", "text(3) => 0", "minutes(0) => NONE",
        "minutes(61) => NONE", "chair(NONE, 0) => 0", "cat(NONE, 0, 0) => 0", "family(NONE) => 0", "board(NONE) => 0",
        "talk(NONE) => 0", "half(0, NONE) => 0", "swing(NONE) => 0", "quarrel(NONE, 0) => 0", "rocks(0) => 0",
        "reply(0, 0, 1) => NONE", "storm(1, NONE) => 0", "level(0) => 0", "talks(0) => 0", "halves(1) => 1",
        "swings(1) => 0", "seated(8, 0) => 40320"};

    /** All is told that there is room for: porches, persons, rows, the TAPE, the book. */
    private static String[] crowd() {
        List<String> all = new ArrayList<>();
        for (int i = 0; i < 12; i++) all.add("porch(1, " + 9 * i + ") => " + i);
        for (int i = 0; i < 20; i++) all.add("person(" + i / 2 + ", 9) => " + i);
        all.add("LAW: speaks 1000;");
        for (int i = 0; i < 5; i++) all.add("act(0, " + i + ", " + i + ") => 1");
        for (int i = 1; i <= 5; i++) all.add("chair(" + (i + 1) + ", 1) => " + i);
        for (int i = 1; i <= 12; i++) all.add("cat(0, 1, " + (200 + i) + ") => " + (i > 2 ? i - 2 : -1));
        all.add("cat(1, 2, 3099) => 11");
        all.add("cat(2, 0, 3099) => 12");
        for (int i = 1; i <= 8; i++) all.add("family(" + i + ") => " + i);
        for (int i = 1; i <= 12; i++) all.add("board(" + i * 7 % 12 + ") => " + i);
        for (int i = 1; i <= 24; i++) all.add("talk(" + i % 3 + ") => " + i);
        for (int i = 1; i <= 24; i++) all.add("half(" + (i > 12 ? 1 : 0) + ", " + i % 2 + ") => " + (i > 12 ? i - 12 : i));
        for (int i = 1; i <= 24; i++) all.add("half(2, " + i % 2 + ") => " + i);
        for (int i = 1; i <= 8; i++) all.add("swing(" + i * i % 60 + ") => " + i);
        for (int i = 1; i <= 8; i++) all.add("quarrel(0, " + (i > 7 ? 1 : i) + ") => " + i);
        all.add("minutes(31) => 155");
        all.add("look(7) => 150");
        for (int i = 1; i <= 20; i++) all.add("feed(538976288, 538976288, 538976288, 538976288, 35) => " + 20 * i);
        return all.toArray(new String[0]);
    }

    private static final String[] NO_ROOM = {"porch(1, 1) => NONE", "person(1, 1) => NONE", "act(0, 5, 0) => 0",
        "act(0, 4, 5) => 0", "chair(2, 0) => NONE", "cat(3, 4, 1099) => NONE", "family(1) => NONE", "board(0) => NONE",
        "talk(1) => NONE", "half(0, 1) => NONE", "half(1, 1) => NONE", "half(2, 1) => NONE", "swing(1) => NONE",
        "quarrel(4, 5) => NONE", "feed(1, 2, 3, 4, 5) => NONE", "end(401) => 0", "end(400) => 1", "book(150, 0) => NONE"};
}
