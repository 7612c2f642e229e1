import java.util.ArrayList;
import java.util.List;

/**
 * The document's 512 calls, PORCHES and TEXTS, sentence by sentence: of each that names an edge the last value that can be,
 * the first that can't on either side, empty and full, and what wraps. What is refused is looked at in RefusedTest, too.
 */
public final class EdgesTest {
    private static final Due due = new Due("EdgesTest");

    public static void main(String[] args) {
        calls512();
        state();
        draws();
        porches();
        chairs();
        lampBounds();
        cobwebBounds();
        masters();
        persons();
        stayed();
        minuteAndEvening();
        lastEvening();
        emptyTexts();
        tape();
        callNumbers();
        eveningNumbers();
        streetNumbers();
        lawNumbers();
        sixteenLines();
        tokens();
        keywordsInTheirPlaces();
        behindTheEnd();
        firstFaultByPlace();
        openNine();
        openEightAndMore();
        fullTape();
        heldNumbers();
        wrappedNumbers();
        defaults();
        due.close();
    }

    private static Run run(String sentence) {
        return new Run(due, sentence);
    }

    /** Twelve porches of three chairs, twenty persons; the last ones are 11 and 19. */
    private static Run fullStreet(String sentence) {
        return run(sentence).times(12, "porch(3, 0)").times(20, "person(0, 0)");
    }

    private static void calls512() {
        String sentence = "used for at most 512 calls";
        Run r = run(sentence);
        r.times(511, "minutes(60) => 0").does("look(3) => 511");
        due.is(sentence + ": that many", r.calls(), 512);
        r = run(sentence).does("porch(1, 5) => 0");
        for (int i = 0; i < 127; i++) r.does("LAW: spins " + i % 10 + "; => 1", "porchOf(0, 5) => " + i % 10);
        r.does("feed(0, 0, 0, 0, 0) => 20", "text(0) => NONE", "porchOf(0, 5) => 6");
        due.is(sentence + ": that many", r.calls(), 512);
        r = run(sentence).does("porch(1, 5) => 0", "person(9, 9) => 0");
        for (int i = 0; i < 127; i++) r.does("image(true) => 1", "act(0, 0, 0) => 1", "look(7) => 1", "image(false) => 1");
        r.does("look(7) => 0", "act(2, 0, 0) => 1");
        due.is(sentence + ": that many", r.calls(), 512);
        r = run(sentence).does("porch(1, 5) => 0", "person(9, 9) => 0");
        for (int i = 0; i < 85; i++) r.does("act(0, 0, 0) => 1", "act(1, 0, 0) => 1", "act(3, 0, 9) => 1", "undo() => 1",
            "undo() => 1", "undo() => 1");
        due.is(sentence + ": that many", r.calls(), 512);
    }

    private static void state() {
        run("STATE of draws (an int, 0 at first)").does("look(8) => 0", "state(MAX) => 0", "look(8) => MAX",
            "state(MIN) => MAX", "state(-1) => MIN", "state(0) => -1", "state(1) => 0", "look(8) => 1");
    }

    /** The STATE out of which one draw makes this one. */
    private static int before(int target) {
        int inverse = 1;
        for (int i = 0; i < 5; i++) inverse *= 2 - 1664525 * inverse;
        return (target - 1013904223) * inverse;
    }

    /** A draw is the highest 24 bits without sign: of MIN 8388608, of -1 16777215, of what is below 256 nothing. */
    private static void draws() {
        int[][] of = {{0, 0}, {255, 0}, {256, 1}, {999 << 8, 999}, {1000 << 8, 0}, {(1000 << 8) + 255, 0}, {1001 << 8, 1},
            {Integer.MAX_VALUE, 607}, {Integer.MIN_VALUE, 608}, {Integer.MIN_VALUE + 256, 609}, {-1, 215}, {-256, 215},
            {-257, 214}};
        for (int[] o : of) {
            for (int odds = o[1]; odds <= o[1] + 1; odds++) {
                String sentence = "a DRAW of 1000 that makes STATE " + o[0] + ", speaks " + odds;
                Run r = run(sentence).does("porch(2, 0) => 0", "person(0, 0) => 0", "act(0, 0, 0) => 1",
                    "LAW: speaks " + odds + ";");
                r.does("state(" + before(o[0]) + ")", "minutes(1) => " + (odds - o[1]));
                // is it not above 0, nothing is drawn
                r.does("look(8) => " + (odds == 0 ? before(o[0]) : o[0]), "of(0, 4) => " + (odds - o[1]));
            }
        }
        run("a DRAW wraps").does("porch(1, 0)", "person(9, 0)", "act(0, 0, 0)", "state(MAX)", "minutes(1)",
            "look(8) => -1135243950");
    }

    private static void porches() {
        Run r = run("PORCHES 0 .. 11 as they come").does("porchOf(0, 0) => -2");
        for (int i = 0; i < 12; i++) r.does("porch(" + (1 + i % 6) + ", " + 9 * i + ") => " + i, "look(0) => " + (i + 1));
        r.does("porch(1, 0) => NONE", "porch(6, 99) => NONE", "look(0) => 12", "porchOf(11, 0) => 6", "porchOf(11, 1) => 99",
            "porchOf(12, 0) => -2", "porchOf(-1, 0) => -2", "porchOf(0, 21) => NONE", "porchOf(0, 22) => -2",
            "porchOf(11, 10) => NONE");
        run("CHAIRS 1 .. 6").does("porch(0, 5) => NONE", "porch(7, 5) => NONE", "porch(-1, 5) => NONE", "look(0) => 0",
            "porch(1, 5) => 0", "porch(6, 5) => 1", "porchOf(0, 0) => 1", "porchOf(1, 0) => 6");
        run("LAMP 0 .. 99").does("porch(1, -1) => NONE", "porch(1, 100) => NONE", "look(0) => 0", "porch(1, 0) => 0",
            "porch(1, 99) => 1", "porchOf(0, 1) => 0", "porchOf(1, 1) => 99", "act(3, 0, -1) => 0", "act(3, 0, 100) => 0",
            "porchOf(0, 1) => 0", "act(3, 0, 99) => 1", "porchOf(0, 1) => 99", "act(3, 1, 0) => 1", "porchOf(1, 1) => 0");
        run("COBWEB 0 at first, MASTER NONE at first").does("porch(3, 3) => 0", "porchOf(0, 2) => 0",
            "porchOf(0, 3) => NONE", "porchOf(0, 4) => 0");
    }

    /** As many sit as there are chairs, by hand and by CALLS; the next one does not. */
    private static void chairs() {
        for (int chairs = 1; chairs <= 6; chairs++) {
            Run r = run("a PORCH of " + chairs + " CHAIRS").does("porch(" + chairs + ", 0)").times(8, "person(0, 0)");
            for (int i = 0; i < chairs; i++) r.does("act(0, " + i + ", 0) => 1");
            int all = (1 << chairs) - 1;
            r.does("act(0, 7, 0) => 0", "porchOf(0, 4) => " + all, "act(1, 0, 0) => 1", "act(0, 7, 0) => 1",
                "act(0, 0, 0) => 0", "porchOf(0, 4) => " + (all - 1 + 128));
            r = run("a PORCH of " + chairs + " CHAIRS, called").does("porch(" + chairs + ", 0)").times(8, "person(0, 0)");
            StringBuilder calls = new StringBuilder("CALLS: ");
            for (int i = 7; i >= 0; i--) calls.append("person ").append(i).append(" at 0 on 0 for 1;");
            r.does(calls + " => 8", "goes(1, 2) => 1", "minutes(1) => 0", "look(7) => " + chairs, "book(0, 3) => 7",
                "book(" + (chairs - 1) + ", 3) => " + (8 - chairs), "book(" + chairs + ", 3) => NONE", "look(5) => 0");
        }
    }

    private static void lampBounds() {
        run("LAMP above 0: one less").does("porch(1, 99)", "minutes(60) => 0", "porchOf(0, 1) => 39", "minutes(38)",
            "porchOf(0, 1) => 1", "minutes(1)", "porchOf(0, 1) => 0", "minutes(1)", "porchOf(0, 1) => 0",
            "goes(60, 3) => 0");
    }

    private static void cobwebBounds() {
        run("COBWEB 0 .. 99").does("porch(1, 0)", "set(0, 0, -1) => 0", "set(0, 0, 100) => 0", "porchOf(0, 2) => 0",
            "set(0, 0, 99) => 1", "porchOf(0, 2) => 99", "minutes(1)", "porchOf(0, 2) => 99", "set(0, 0, 98) => 1",
            "minutes(1)", "porchOf(0, 2) => 99", "set(0, 0, 0) => 1", "porchOf(0, 2) => 0", "minutes(60)", "minutes(38)",
            "porchOf(0, 2) => 98", "minutes(60)", "porchOf(0, 2) => 99");
        run("COBWEB so much more (99 at most)").does("porch(1, 0)", "LAW: spins 9;", "set(0, 0, 90)", "goes(1, 2) => 99",
            "minutes(1)", "porchOf(0, 2) => 99", "set(0, 0, 91)", "minutes(1)", "porchOf(0, 2) => 99", "set(0, 0, 89)",
            "minutes(1)", "porchOf(0, 2) => 98", "goes(1, 2) => 99");
    }

    private static void masters() {
        run("MASTER (a PERSON, NONE)").does("porch(1, 0)", "set(1, 0, 0) => 0", "set(1, 0, NONE) => 1", "person(0, 0)",
            "set(1, 0, 0) => 1", "porchOf(0, 3) => 0", "set(1, 0, 1) => 0", "set(1, 0, -2) => 0", "porchOf(0, 3) => 0",
            "set(1, 1, 0) => 0", "set(1, -1, 0) => 0", "set(1, 0, NONE) => 1", "porchOf(0, 3) => NONE");
        fullStreet("MASTER of the last PORCH").does("set(1, 11, 19) => 1", "porchOf(11, 3) => 19", "set(1, 11, 20) => 0",
            "set(1, 12, 19) => 0", "porchOf(11, 3) => 19");
    }

    private static void persons() {
        Run r = run("PERSONS 0 .. 19 as they come").does("of(0, 0) => -2");
        for (int i = 0; i < 20; i++) r.does("person(" + i / 2 + ", " + (9 - i / 2) + ") => " + i, "look(1) => " + (i + 1));
        r.does("person(0, 0) => NONE", "look(1) => 20", "of(19, 0) => 9", "of(19, 1) => 0", "of(20, 0) => -2",
            "of(-1, 0) => -2");
        int[] first = {3, 7, -1, 0, 0, 0, -1, -1};
        r = run("a PERSON at first").does("person(3, 7) => 0");
        for (int what = 0; what < 8; what++) r.does("of(0, " + what + ") => " + first[what]);
        r.does("of(0, 8) => -2", "of(0, -1) => -2");
        run("TONGUE 0 .. 9, EARS 0 .. 9").does("person(-1, 0) => NONE", "person(10, 0) => NONE", "person(0, -1) => NONE",
            "person(0, 10) => NONE", "look(1) => 0", "person(0, 9) => 0", "person(9, 0) => 1", "set(2, 0, 9) => 1",
            "set(2, 0, 10) => 0", "set(2, 1, 0) => 1", "set(2, 1, -1) => 0", "set(3, 0, 0) => 1", "set(3, 0, -1) => 0",
            "set(3, 1, 9) => 1", "set(3, 1, 10) => 0", "of(0, 0) => 9", "of(1, 0) => 0", "of(0, 1) => 0", "of(1, 1) => 9");
        fullStreet("who SIT (a set)").does("act(0, 19, 11) => 1", "porchOf(11, 4) => 524288", "look(5) => 524288",
            "act(0, 0, 11) => 1", "look(5) => 524289", "act(0, 20, 11) => 0", "act(0, 18, 12) => 0", "of(19, 2) => 11");
    }

    /** All get up behind minute 59, so that nobody stays longer than sixty minutes. */
    private static void stayed() {
        run("STAYED").does("porch(1, 0)", "person(0, 0)", "of(0, 3) => 0", "act(0, 0, 0)", "of(0, 3) => 0", "minutes(1)",
            "of(0, 3) => 1", "minutes(58)", "of(0, 3) => 59", "of(0, 2) => 0", "minutes(1)", "of(0, 3) => 0",
            "of(0, 2) => NONE", "act(0, 0, 0) => 1", "of(0, 3) => 0");
    }

    private static void minuteAndEvening() {
        run("MINUTE 0 .. 59, EVENING 0 .. 9999 (0 at first)").does("look(2) => 0", "look(3) => 0", "minutes(59)",
            "look(2) => 59", "look(3) => 0", "minutes(1)", "look(2) => 0", "look(3) => 1", "minutes(60)", "look(2) => 0",
            "look(3) => 2", "undo() => 1", "look(2) => 59", "look(3) => 1");
        run("MINUTES go by (1 .. 60)").does("minutes(0) => NONE", "minutes(61) => NONE", "minutes(-1) => NONE",
            "minutes(MIN) => NONE", "minutes(MAX) => NONE", "look(2) => 0", "look(13) => 0", "minutes(1) => 0",
            "look(2) => 1", "minutes(60) => 0", "look(3) => 1", "look(2) => 1");
    }

    /** Beyond 512 calls answers are free, but nothing else comes near the bound: here it is held as told. */
    private static void lastEvening() {
        String sentence = "NONE if EVENING (and MINUTE and n by 60) would be above 9990";
        PorchHours x = new PorchHours();
        for (int i = 0; i < 9989; i++) x.minutes(60);
        due.is(sentence + ": EVENING", x.look(3), 9989);
        x.minutes(59);
        due.is(sentence + ": 9989, 59 and 60", x.minutes(60), 0);
        due.is(sentence + ": EVENING", x.look(3), 9990);
        due.is(sentence + ": MINUTE", x.look(2), 59);
        due.is(sentence + ": 9990, 59 and 1", x.minutes(1), -1);
        due.is(sentence + ": 9990, 59 and 60", x.minutes(60), -1);
        due.is(sentence + ": undone", x.undo(), true);
        due.is(sentence + ": 9990, 58 and 2", x.minutes(2), -1);
        due.is(sentence + ": left as it was", x.look(2) == 58 && x.look(3) == 9990 && x.look(13) == 5, true);
        due.is(sentence + ": 9990, 58 and 1", x.minutes(1), 0);
        due.is(sentence + ": 9990, 59 in thought", x.goes(60, 0), 0);
        due.is(sentence + ": EVENING", x.look(3), 9990);
    }

    private static void emptyTexts() {
        String[] texts = {"LAW", "CALLS", "EVENINGS", "STREET"};
        String[] lines = {"spins 1;", "person 0 at 0 on 0 for 1;", "in 0 rain 0;", "porch 0 by 1 1;"};
        for (int k = 0; k < 4; k++) {
            String look = "look(" + (9 + k) + ")";
            fullStreet("TEXTS (empty at first)").does(look + " => 0", texts[k] + ":  => 0", "fault(0) => 0",
                "fault(1) => NONE", texts[k] + ": " + lines[k] + " => 1", look + " => 1", texts[k] + ":    \n\n  => 0",
                look + " => 0", "fault(1) => NONE", texts[k] + ": " + lines[k] + " => 1", "text(" + k + ") => 0",
                look + " => 0");
        }
    }

    private static void tape() {
        Run r = run("more than 400");
        for (int i = 1; i <= 20; i++) r.does("feed(0, 0, 0, 0, 0) => " + 20 * i);
        r.does("feed(0, 0, 0, 0, 0) => NONE", "end(401) => 0", "end(400) => 1", "end(381) => 1",
            "feed(0, 0, 0, 0, 0) => NONE", "end(382) => 0", "end(380) => 1", "feed(0, 0, 0, 0, 0) => 400", "end(0) => 1",
            "end(1) => 0", "feed(0, 0, 0, 0, 0) => 20");
        run("not so many, or n below 0").does("end(0) => 1", "end(1) => 0", "end(-1) => 0", "feed(1, 2, 3, 4, 5) => 20",
            "end(21) => 0", "end(-1) => 0", "end(MIN) => 0", "end(MAX) => 0", "end(20) => 1", "end(19) => 1", "end(20) => 0",
            "end(0) => 1", "end(1) => 0");
        // "spins 8;" in two numbers; then what is no token as the last of twenty bytes, and as the first
        run("of each number the highest first").does("porch(1, 1)",
            "feed(1936746862, 1931491387, 538976288, 538976288, 538976288) => 20", "text(0) => 1", "porchOf(0, 5) => 8",
            "feed(538976288, 538976288, 538976288, 538976288, 538976291) => 20", "text(0) => NONE", "fault(1) => 19",
            "feed(587202560, 0, 0, 0, 0) => 20", "text(0) => NONE", "fault(1) => 0");
        run("the TAPE is empty in each case").does("TAPE: spins 1;", "text(4) => NONE", "end(1) => 0", "TAPE: spins 1;",
            "text(-1) => NONE", "end(1) => 0", "TAPE: spins 1;", "text(0) => 1", "end(1) => 0", "TAPE: spins 1",
            "text(0) => NONE", "end(1) => 0");
        run("no such one (fault() tells 0)").does("LAW: spins 1 => NONE", "fault(0) => 1", "fault(1) => 7",
            "text(4) => NONE", "fault(0) => 0", "fault(1) => NONE", "LAW: spins 1 => NONE", "text(-1) => NONE",
            "fault(0) => 0", "fault(1) => NONE", "fault(2) => NONE", "fault(-1) => NONE", "fault(MIN) => NONE",
            "fault(MAX) => NONE");
    }

    /** Tells the text k with a number at the place of #, and what fault there is at that place. */
    private static void number(int k, String text, String number, int kind) {
        String[] texts = {"LAW: ", "CALLS: ", "EVENINGS: ", "STREET: "};
        String told = texts[k] + text.replace("#", number);
        Run r = fullStreet("one beyond its bounds, in " + told);
        r.does(told + " => " + (kind == 0 ? 1 : -1), "fault(0) => " + kind,
            "fault(1) => " + (kind == 0 ? -1 : text.indexOf('#')), "look(" + (9 + k) + ") => " + (kind == 0 ? 1 : 0));
    }

    private static void bounds(int k, String text, int least, int most) {
        number(k, text, "" + least, 0);
        number(k, text, "" + most, 0);
        if (least > 0) number(k, text, "" + (least - 1), 2);
        number(k, text, "" + (most + 1), 2);
        number(k, text, "9999", 2);
        number(k, text, "10000", 1);
        number(k, text, "0000", least > 0 ? 2 : 0);
        number(k, text, "00001", 1);
        number(k, text, ";", 1);
        number(k, text, "-1", 1);
    }

    private static void callNumbers() {
        bounds(1, "person # at 0 on 0 for 1;", 0, 19);
        bounds(1, "person 0 at # on 0 for 1;", 0, 59);
        bounds(1, "person 0 at 0 on # for 1;", 0, 11);
        bounds(1, "person 0 at 0 on 0 for #;", 1, 60);
    }

    private static void eveningNumbers() {
        bounds(2, "in # rain 0;", 0, 999);
        bounds(2, "in 0 rain #;", 0, 59);
        bounds(2, "in 0 oil # 5;", 0, 11);
        bounds(2, "in 0 oil 5 #;", 0, 99);
        bounds(2, "in 0 sweep #;", 0, 11);
        bounds(2, "in 0 master # 5;", 0, 11);
        bounds(2, "in 0 master 5 #;", 0, 19);
    }

    private static void streetNumbers() {
        bounds(3, "porch # by 5 7;", 0, 11);
        bounds(3, "porch 5 by # 7;", 0, 11);
        bounds(3, "porch 5 by 6 #;", 1, 99);
        number(3, "porch 5 by # 7;", "5", 2);
        number(3, "porch 0 by # 7;", "0", 2);
        number(3, "porch 11 by # 7;", "11", 2);
        number(3, "porch 5 by # 7;", "0005", 2);
        number(3, "porch 5 by # 7;", "00005", 1);
        number(3, "porch 5 by # 7;", "4", 0);
        run("a PERSON, a PORCH that there is not").does("CALLS: person 0 at 0 on 0 for 1; => NONE", "fault(0) => 2",
            "fault(1) => 7", "person(0, 0)", "CALLS: person 0 at 0 on 0 for 1; => NONE", "fault(0) => 2", "fault(1) => 17",
            "porch(1, 0)", "CALLS: person 0 at 0 on 0 for 1; => 1", "STREET: porch 0 by 1 1; => NONE", "fault(1) => 11",
            "porch(1, 0)", "STREET: porch 0 by 1 1; => 1", "EVENINGS: in 0 master 2 0; => NONE", "fault(1) => 12",
            "EVENINGS: in 0 master 1 1; => NONE", "fault(1) => 14", "EVENINGS: in 0 master 1 0; => 1");
    }

    private static void lawNumbers() {
        String[] can = {"0", "9999", "0000", "0001"};
        String[] not = {"10000", "00000", "99999", ";", "-1"};
        for (String n : can) number(0, "spins #;", n, 0);
        for (String n : not) number(0, "spins #;", n, 1);
        for (String n : can) number(0, "spins 1 when #<1;", n, 0);
        for (String n : can) number(0, "spins 9999/#;", n, Integer.parseInt(n) == 0 ? 2 : 0);
        for (String n : not) number(0, "spins 9999/#;", n, 1);
        number(0, "spins 9999*#;", "0", 0);
        number(0, "spins 9999/#;", "tongue", 1);
        number(0, "spins 9999*tongue/#;", "0", 2);
        number(0, "spins 9999 when 1=2/#;", "0", 2);
        number(0, "spins 9999 when 1/#=2;", "00", 2);
    }

    private static void sixteenLines() {
        String[] texts = {"LAW: ", "CALLS: ", "EVENINGS: ", "STREET: "};
        String[] lines = {"spins 1;", "person0at0on0for1;", "in 0 rain 0;", "porch 0 by 1 1;"};
        for (int k = 0; k < 4; k++) {
            String sentence = "the 17th line of a text";
            String sixteen = texts[k] + lines[k].repeat(16);
            int behind = 16 * lines[k].length();
            String look = "look(" + (9 + k) + ")";
            fullStreet(sentence).does(texts[k] + lines[k].repeat(15) + " => 15", look + " => 15", sixteen + " => 16",
                look + " => 16", "fault(0) => 0", sixteen + lines[k] + " => NONE", "fault(0) => 3", "fault(1) => " + behind,
                look + " => 16");
            // at its KEYWORD, whatever comes behind; what is no such KEYWORD can't stand there
            fullStreet(sentence).does(sixteen + "  " + lines[k].substring(0, 5) + " => NONE",
                "fault(0) => " + (k == 1 ? 1 : 3), "fault(1) => " + (behind + 2), sixteen + "; => NONE", "fault(0) => 1",
                "fault(1) => " + behind, sixteen + " 7 => NONE", "fault(0) => 1", "fault(1) => " + (behind + 1),
                sixteen + "   => 16");
        }
    }

    private static void tokens() {
        String sentence = "TOKENS";
        run(sentence).does("porch(1, 1)", "LAW: \n spins\n\n 7 \n;\n => 1", "porchOf(0, 5) => 7", "LAW: spins6; => 1",
            "porchOf(0, 5) => 6");
        // what stands beside the signs, the digits, the letters and the blanks in the order of the bytes
        int[] none = {0, 1, 9, 11, 12, 13, 31, 33, 39, 44, 46, 58, 63, 64, 91, 94, 95, 96, 123, 126, 127, 128, 160, 255};
        for (int c : none) {
            run(sentence + ": " + c).does("porch(1, 1)", "LAW: spins 7;" + (char) c + " => NONE", "fault(0) => 1",
                "fault(1) => 8", "LAW: spins" + (char) c + "7; => NONE", "fault(0) => 1", "fault(1) => 5", "look(9) => 0");
        }
        // letters as many as stand together, small and large
        for (char c : new char[] {'A', 'Z', 'a', 'z'}) {
            run(sentence + ": " + c).does("LAW: spins" + c + " 7; => NONE", "fault(0) => 1", "fault(1) => 0",
                "LAW: spins 7" + c + "; => NONE", "fault(1) => 7");
        }
        run(sentence).does("LAW: SPINS 7; => NONE", "fault(1) => 0", "LAW: spin s 7; => NONE", "fault(1) => 0",
            "LAW: spins 1 2; => NONE", "fault(1) => 8", "LAW: spins 12 34; => NONE", "fault(1) => 9");
    }

    private static final String[] KEYWORDS = {"speaks", "hears", "spins", "when", "or", "and", "not", "tongue", "ears",
        "sitting", "stayed", "lamp", "cobweb", "minute", "said", "heard", "evening", "person", "at", "on", "for", "in", "oil",
        "sweep", "rain", "master", "porch", "by"};

    /** At the place of # these words can stand (some ask for other things behind them), and no other one. */
    private static void onlyThese(int k, String text, String... can) {
        String[] texts = {"LAW: ", "CALLS: ", "EVENINGS: ", "STREET: "};
        List<String> these = List.of(can);
        int place = text.indexOf('#');
        for (String word : KEYWORDS) {
            Run r = fullStreet("KEYWORDS in their places: " + word + " in " + text).does(texts[k] + text.replace("#", word));
            if (these.contains(word)) due.is("what can stand: " + word + " in " + text, r.answer("fault(1)") != place, true);
            else r.does("fault(0) => 1", "fault(1) => " + place, "look(" + (9 + k) + ") => 0");
        }
        for (String word : can) {
            for (int cut = 1; cut < word.length(); cut++) number(k, text, word.substring(0, cut), 1);
            number(k, text, word + "s", 1);
            number(k, text, "s" + word, 1);
            number(k, text, word.substring(0, word.length() - 1) + "z", 1);
        }
    }

    private static void keywordsInTheirPlaces() {
        String[] nouns = {"tongue", "ears", "sitting", "stayed", "lamp", "cobweb", "minute", "said", "heard", "evening"};
        onlyThese(0, "# 1;", "speaks", "hears", "spins");
        onlyThese(0, "spins 1;# 1;", "speaks", "hears", "spins");
        onlyThese(0, "spins #;", nouns);
        onlyThese(0, "spins 1*#;", nouns);
        onlyThese(0, "spins 1/#;");
        onlyThese(0, "spins 1 # 1=1;", "when");
        onlyThese(0, "spins 1 when 1=1 # 1=1;", "and", "or");
        onlyThese(0, "spins 1 when # 1=1;", join(nouns, "not"));
        onlyThese(0, "spins 1 when (# 1=1);", join(nouns, "not"));
        onlyThese(0, "spins 1 when 1=#;", nouns);
        onlyThese(1, "# 0 at 0 on 0 for 1;", "person");
        onlyThese(1, "person 0 # 0 on 0 for 1;", "at");
        onlyThese(1, "person 0 at 0 # 0 for 1;", "on");
        onlyThese(1, "person 0 at 0 on 0 # 1;", "for");
        onlyThese(2, "# 0 rain 0;", "in");
        onlyThese(2, "in 0 # 0;", "oil", "sweep", "rain", "master");
        onlyThese(2, "in 0 oil # 0;");
        onlyThese(3, "# 0 by 1 1;", "porch");
        onlyThese(3, "porch 0 # 1 1;", "by");
        onlyThese(3, "porch 0 by # 1;");
    }

    private static String[] join(String[] words, String word) {
        List<String> all = new ArrayList<>(List.of(words));
        all.add(word);
        return all.toArray(new String[0]);
    }

    /** What was cut off is no more read, though it would make another token of the last one. */
    private static void behindTheEnd() {
        run("The TAPE has its first n bytes alone").does("TAPE: spins 12345;", "end(10) => 1", "text(0) => NONE",
            "fault(0) => 1", "fault(1) => 10", "TAPE: spins 1 when 1=1;", "end(11) => 1", "text(0) => NONE", "fault(1) => 8",
            "TAPE: spins 1;", "end(7) => 1", "text(0) => NONE", "fault(1) => 7", "TAPE: spins 1;spins 2;", "end(8) => 1",
            "text(0) => 1", "TAPE: spins 1;spins 2;", "end(0) => 1", "text(0) => 0");
        run("The TAPE, empty then").does("LAW: speaks 9999; => 1", "LAW: spins => NONE", "fault(1) => 5",
            "LAW: sp => NONE", "fault(1) => 0", "LAW: speaks => NONE", "fault(1) => 6");
    }

    private static void firstFaultByPlace() {
        String sentence = "FAULTS, the first by its place";
        run(sentence).does("LAW: spins 1/0; # => NONE", "fault(0) => 2", "fault(1) => 8", "LAW: # spins 1/0; => NONE",
            "fault(0) => 1", "fault(1) => 0", "CALLS: person 0 at 99999 => NONE", "fault(0) => 2", "fault(1) => 7",
            "CALLS: person at 60 => NONE", "fault(0) => 1", "fault(1) => 7", "STREET: porch 0 by 0 0; => NONE",
            "fault(0) => 2", "fault(1) => 6", "EVENINGS: in 1000 rain 60 => NONE", "fault(0) => 2", "fault(1) => 3");
        run(sentence + " (the end: the text's length)").does("LAW: spins => NONE", "fault(0) => 1", "fault(1) => 5",
            "LAW: spins   => NONE", "fault(1) => 7", "LAW: spins 1 => NONE", "fault(1) => 7", "LAW: spins 1 \n\n => NONE",
            "fault(1) => 10");
        String full = "spins 1" + " ".repeat(393);
        run(sentence + " (the end of 400)").does("LAW: " + full + " => NONE", "fault(0) => 1", "fault(1) => 400",
            "LAW: " + full.substring(1) + "; => NONE", "fault(1) => 0", "LAW: " + full.substring(0, 399) + "; => 1");
    }

    private static void openNine() {
        String sentence = "the 9th ( or not that is open";
        String when = "LAW: spins 2 when ";
        String at = "fault(1) => ";
        run(sentence).does(when + "(".repeat(8) + "1=1" + ")".repeat(8) + "; => 1",
            when + "(".repeat(9) + "1=1" + ")".repeat(9) + "; => NONE", "fault(0) => 3", at + 21,
            when + "not ".repeat(8) + "1=1; => 1", when + "not ".repeat(9) + "1=1; => NONE", "fault(0) => 3", at + 45,
            when + "not(".repeat(4) + "1=1" + ")".repeat(4) + "; => 1",
            when + "not(".repeat(4) + "not 1=1" + ")".repeat(4) + "; => NONE", "fault(0) => 3", at + 29,
            when + "(1=1)and ".repeat(9) + "not 1=2; => 1", when + "not 1=2 or ".repeat(9) + "(1=1); => 1");
        // what was joined is no more open
        run(sentence).does(when + "1=1 and 1=1 or ".repeat(3) + "(".repeat(8) + "1=1" + ")".repeat(8) + "; => 1",
            when + "1=1 and 1=1 or ".repeat(3) + "(".repeat(9) + " => NONE", "fault(0) => 3", at + (13 + 45 + 8),
            when + "(1=1)and(1=1)or ".repeat(3) + "not ".repeat(9) + " => NONE", "fault(0) => 3", at + (13 + 48 + 32),
            when + "((1=1)or 1=1 and ".repeat(4) + "(".repeat(5) + " => NONE", "fault(0) => 3", at + (13 + 68 + 4));
        // of the text's end behind eight, and what can't stand behind them
        run(sentence).does(when + "(".repeat(8) + " => NONE", "fault(0) => 1", at + 21, when + "(".repeat(8) + ") => NONE",
            "fault(0) => 1", at + 21, when + "(".repeat(9) + " => NONE", "fault(0) => 3", at + 21,
            when + "(".repeat(8) + "1/0 => NONE", "fault(0) => 2", at + 23);
    }

    /** In each of the eight that are open, and outside, an "or" and an "and" wait: the innermost row tells how all is. */
    private static void openEightAndMore() {
        String[] opens = {"1=2or1=1and(", "1=2or 1=1and not(", "1=1 and(1=2 or "};
        int[] most = {8, 4, 8};
        for (int k = 0; k < opens.length; k++) {
            for (int depth = 0; depth <= most[k]; depth++) {
                for (int so = 0; so <= 1; so++) {
                    int due = k == 1 ? (so + depth) % 2 : so;
                    String inner = "1=2or 1=1and 7-3*2/1=9+8-8*" + (so == 1 ? 2 : 3);
                    run("( and not that are open, with what waits in them").does("porch(1, 1)", "person(0, 0)",
                        "LAW: hears 1 when " + opens[k].repeat(depth) + inner + ")".repeat(depth) + ";hears 0; => 2",
                        "hears(0, 0) => " + due);
                }
            }
        }
    }

    /** As many tokens as there are bytes, and laws as long as the TAPE, told again and again. */
    private static void fullTape() {
        String sentence = "a text of 400 bytes";
        run(sentence).does("LAW: " + ";".repeat(400) + " => NONE", "fault(0) => 1", "fault(1) => 0",
            "STREET: " + " ".repeat(399) + "; => NONE", "fault(1) => 399", "LAW: spins" + "(".repeat(395) + " => NONE",
            "fault(1) => 5", "CALLS: " + " ".repeat(400) + " => 0");
        String sum = "spins9" + "-1".repeat(98) + "+1".repeat(98) + "; ";
        String when = "spins 7 when 0" + "+1".repeat(190) + "=190; ";
        due.is(sentence, sum.length() == 400 && when.length() == 400, true);
        Run r = run(sentence + ", again and again").does("porch(1, 1)");
        for (int i = 0; i < 3; i++) r.does("LAW: " + sum + " => 1", "porchOf(0, 5) => 9", "LAW: " + when + " => 1",
            "porchOf(0, 5) => 7");
    }

    private static void heldNumbers() {
        Run r = run("speaks, hears held to 0 .. 1000, spins to 0 .. 9").does("porch(1, 1)", "person(0, 0)", "act(0, 0, 0)");
        int[] values = {-9999, -1, 0, 1, 9, 10, 999, 1000, 1001, 9999};
        for (int v : values) {
            String e = v < 0 ? "0-" + -v : "" + v;
            int held = Math.max(0, Math.min(1000, v));
            r.does("LAW: speaks " + e + ";hears " + e + ";spins " + e + "; => 3", "of(0, 7) => " + held,
                "hears(0, 0) => " + held, "porchOf(0, 5) => " + Math.min(9, held));
        }
    }

    /** 9999 * 9999 * 21 is 2099580021, so that MAX is 9999 * 4790 + 8416 more; 22 times it is -2095407274, 43 times 4172747. */
    private static void wrappedNumbers() {
        Run r = run("Ints, which wrap; / goes towards 0").does("porch(1, 1)", "person(0, 0)");
        String[] so = {"9999*9999*21+9999*4790+8416>0", "9999*9999*21+9999*4790+8417<0", "0-9999*9999*21-9999*4790-8417<0",
            "0-9999*9999*21-9999*4790-8418>0", "9999*9999*21>0", "9999*9999*22<0", "9999*9999*43=9999*417+3164",
            "9999*9999*22/9999=0-9999*20-9581", "9999*9999*22/9999/9999=0-20", "9999*9999*22/9999/9999/20=0-1",
            "9999*9999*22/9999/9999/21=0", "7/2=3", "7/1=7", "7/7=1", "6/7=0", "9999/9999=1", "9998/9999=0", "0/1=0",
            "9999/1=9999"};
        for (String b : so) r.does("LAW: hears 1 when " + b + "; hears 0; => 2", "hears(0, 0) => 1");
        r = run("E (< | = | >) E").does("porch(1, 1)", "person(0, 0)");
        String[] not = {"2<2", "3<2", "2>2", "1>2", "2=1", "1=2", "0<0-1", "0-1>0"};
        for (String b : not) r.does("LAW: hears 0 when " + b + "; hears 1 when not " + b + "; => 2", "hears(0, 0) => 1");
        String[] yes = {"1<2", "2>1", "2=2", "0-1<0", "0>0-1", "0-1=1-2"};
        for (String b : yes) r.does("LAW: hears 1 when " + b + "; hears 0; => 2", "hears(0, 0) => 1");
    }

    private static void defaults() {
        Run r = run("the first line with that word whose B is so, or that has none (none: ..)").does("porch(2, 0)");
        for (int v = 0; v <= 9; v++) r.does("person(" + v + ", " + v + ")", "hears(" + v + ", 0) => " + 100 * v);
        r.does("act(0, 0, 0)", "act(0, 9, 0)", "of(0, 7) => 0", "of(9, 7) => 540", "porchOf(0, 5) => 1");
        r.does("LAW: speaks 7 when 1=2; hears 7 when 1=2; spins 7 when 1=2; => 3", "of(9, 7) => 540", "hears(9, 0) => 900",
            "porchOf(0, 5) => 1",
            "LAW: speaks 7 when 1=1; speaks 8; hears 7 when 1=2; hears 8; spins 8; spins 7 when 1=1; => 6", "of(9, 7) => 7",
            "hears(9, 0) => 8", "porchOf(0, 5) => 8");
    }
}
