/**
 * The document's IN THOUGHT from MATCHED to GAME, sentence by sentence: of each that names an edge the last value that can
 * be, the first that can't on either side, none told and all that there is room for.
 */
public final class ThoughtEdgesTest {
    private static final Due due = new Due("ThoughtEdgesTest");

    public static void main(String[] args) {
        wishes();
        matched();
        chairs();
        rocks();
        cat();
        reply();
        families();
        storm();
        boards();
        talk();
        half();
        swing();
        quarrels();
        seated();
        last();
        steps();
        lamps();
        hooks();
        game();
        due.close();
    }

    private static Run run(String sentence) {
        return new Run(due, sentence);
    }

    private static void wishes() {
        run("The wishes of i (0 .. 4) of side 0, 1").does("wishes(0, 0, 1234) => 1", "wishes(0, 4, 43210) => 1",
            "wishes(1, 0, 1234) => 1", "wishes(1, 4, 43210) => 1", "wishes(-1, 0, 1234) => 0", "wishes(2, 0, 1234) => 0",
            "wishes(0, -1, 1234) => 0", "wishes(0, 5, 1234) => 0", "wishes(1, -1, 1234) => 0", "wishes(1, 5, 1234) => 0",
            "wishes(MIN, MAX, 1234) => 0");
        run("five digits 0 .. 4, each of the other five").does("wishes(0, 0, 1233) => 0", "wishes(0, 0, 1235) => 0",
            "wishes(0, 0, 43211) => 0", "wishes(0, 0, 43210) => 1", "wishes(0, 0, 43209) => 0", "wishes(0, 0, 0) => 0",
            "wishes(0, 0, 44444) => 0", "wishes(0, 0, 123) => 0", "wishes(0, 0, 12345) => 0", "wishes(0, 0, 98765) => 0",
            "wishes(0, 0, -1234) => 0", "wishes(0, 0, -43210) => 0", "wishes(0, 0, 101234) => 0",
            "wishes(0, 0, 143210) => 0", "wishes(0, 0, MAX) => 0", "wishes(0, 0, MIN) => 0", "wishes(0, 0, 10234) => 1");
    }

    private static void matched() {
        Run r = run("01234 at first");
        for (int i = 0; i < 5; i++) {
            for (int s = 0; s < 2; s++) r.does("matched(" + s + ", " + i + ", 0) => " + i,
                "matched(" + s + ", " + i + ", 1) => " + i);
        }
        r.does("matched(NONE, 0, 0) => 1", "matched(0, 5, 0) => NONE", "matched(0, -1, 0) => NONE",
            "matched(1, 5, 0) => NONE", "matched(0, 0, 2) => NONE", "matched(0, 0, -1) => NONE", "matched(2, 0, 0) => NONE",
            "matched(-2, 0, 0) => NONE", "matched(MIN, 0, 0) => NONE", "matched(MAX, 0, 0) => NONE",
            "matched(0, MIN, 0) => NONE", "matched(1, 0, MAX) => NONE");
        // 0 has 1, 1 has 2, 2 has 0: whose number is asked, and whose is told, makes a difference
        for (int side = 0; side <= 1; side++) {
            Run ring = run("the one of i of side s, if side a asks; the wishes of side " + side).does(
                "wishes(" + side + ", 0, 10234)", "wishes(" + side + ", 1, 20134)", "wishes(" + side + ", 2, 1234)",
                "matched(NONE, 0, 0) => 1");
            int[] dear = {1, 2, 0, 3, 4};
            for (int i = 0; i < 5; i++) {
                for (int a = 0; a < 2; a++) ring.does("matched(" + side + ", " + i + ", " + a + ") => " + dear[i],
                    "matched(" + (1 - side) + ", " + dear[i] + ", " + a + ") => " + i);
            }
        }
        // a wish that can't be told leaves the one that was
        run("NONE if one can't be").does("wishes(0, 0, 10234) => 1", "matched(0, 0, 0) => 1", "wishes(0, 0, 11111) => 0",
            "matched(0, 0, 0) => 1", "wishes(0, 0, 1234) => 1", "matched(0, 0, 0) => 0");
    }

    private static void chairs() {
        run("period 1 .. 30, first forward at 0 .. 29 (below the period)").does("chair(0, 0) => NONE",
            "chair(31, 0) => NONE", "chair(-2, 0) => NONE", "chair(1, 1) => NONE", "chair(1, -1) => NONE",
            "chair(30, 30) => NONE", "chair(30, -1) => NONE", "chair(MIN, 0) => NONE", "chair(MAX, 0) => NONE",
            "chair(5, MAX) => NONE", "chair(5, MIN) => NONE", "rocks(1) => 0", "chair(1, 0) => 1", "chair(30, 29) => 2",
            "rocks(0) => 29", "rocks(1) => 2", "chair(NONE, 0)", "chair(1, 0)", "rocks(0) => 0", "rocks(1) => 1");
        // of 4 and 6 forward at 9, 21, 33: the strides are of 12, not of 24
        run("the first minute of strides that share a part").does("chair(4, 1)", "chair(6, 3)", "rocks(0) => 9",
            "chair(9, 3)", "rocks(0) => 21", "chair(NONE, 0)", "chair(6, 1)", "chair(10, 5)", "chair(15, 10)",
            "rocks(0) => 25", "chair(30, 25)", "rocks(0) => 25", "chair(30, 24)", "rocks(0) => NONE", "rocks(1) => 4");
        run("up to 5 told chairs").does("chair(2, 1) => 1", "chair(2, 1) => 2", "chair(2, 1) => 3", "chair(2, 1) => 4",
            "rocks(1) => 4", "chair(2, 1) => 5", "chair(2, 0) => NONE", "rocks(0) => 1", "rocks(1) => 5",
            "chair(0, 0) => NONE", "chair(NONE, 0) => 0", "rocks(0) => 0", "rocks(1) => 0", "chair(2, 0) => 1",
            "rocks(0) => 0", "rocks(1) => 1");
    }

    private static void rocks() {
        run("none told: 0").does("rocks(0) => 0", "rocks(1) => 0", "rocks(2) => NONE", "rocks(-1) => NONE",
            "rocks(MIN) => NONE", "rocks(MAX) => NONE");
        // 29 * 28 * 27 is 21924: just at 9999, and just behind it
        run("the first minute 0 .. 9999").does("chair(29, 23)", "chair(28, 3)", "chair(27, 9) => 3", "rocks(0) => 9999",
            "rocks(1) => 1", "chair(NONE, 0)", "chair(29, 24)", "chair(28, 4)", "chair(27, 10)", "rocks(0) => NONE");
        run("the first minute at once").does("chair(30, 0)", "chair(29, 0)", "chair(28, 0)", "rocks(0) => 0",
            "rocks(1) => 3");
        run("at one of the minutes 0 .. 99").does("chair(25, 24)", "chair(26, 21) => 2", "rocks(0) => 99", "rocks(1) => 2",
            "chair(NONE, 0)", "chair(25, 0)", "chair(26, 22)", "rocks(0) => 100", "rocks(1) => 1");
    }

    private static void cat() {
        run("from PLACE 0 .. 7 to a PLACE").does("cat(-2, 0, 1) => NONE", "cat(8, 0, 1) => NONE", "cat(0, -1, 1) => NONE",
            "cat(0, 8, 1) => NONE", "cat(MIN, 0, 1) => NONE", "cat(0, MAX, 1) => NONE", "cat(0, 7, 1) => 1",
            "cat(7, 0, 102) => 2", "cat(4, 4, 1) => 3", "reply(0, 0, 7) => 1", "reply(7, 0, 0) => 2");
        run("at a minute 0 .. 99, there at a later minute to 99").does("cat(0, 1, -1) => NONE", "cat(0, 1, 0) => NONE",
            "cat(0, 1, 100) => NONE", "cat(0, 1, 101) => NONE", "cat(0, 1, 9898) => NONE", "cat(0, 1, 9900) => NONE",
            "cat(0, 1, 9999) => NONE", "cat(0, 1, 10001) => NONE", "cat(0, 1, MAX) => NONE", "cat(0, 1, MIN) => NONE",
            "reply(0, 0, 1) => NONE", "cat(0, 1, 9899) => 1", "reply(0, 98, 1) => 99", "reply(0, 99, 1) => NONE",
            "cat(0, 1, 102) => 2", "reply(0, 1, 1) => 2", "reply(0, 2, 1) => 99", "cat(0, 1, 99) => 3", "cat(0, 1, 1) => 4",
            "reply(0, 0, 1) => 1");
        run("up to 12 told ways").times(11, "cat(0, 1, 5099)").does("cat(0, 1, 5060) => 12", "cat(0, 1, 5051) => NONE",
            "reply(0, 0, 1) => 60", "cat(NONE, 0, 0) => 0", "reply(0, 0, 1) => NONE", "cat(0, 1, 5051) => 1",
            "reply(0, 50, 1) => 51");
    }

    private static void reply() {
        run("NONE; alike: m").does("reply(0, 0, 0) => 0", "reply(7, 99, 7) => 99", "reply(0, 0, 1) => NONE",
            "reply(-1, 0, 0) => NONE", "reply(8, 0, 8) => NONE", "reply(0, -1, 0) => NONE", "reply(0, 100, 0) => NONE",
            "reply(0, 0, -1) => NONE", "reply(0, 0, 8) => NONE", "reply(MIN, MIN, MIN) => NONE",
            "reply(MAX, MAX, MAX) => NONE");
        // twelve ways, one behind the other, told from the last to the first, each at the minute in which the cat is there
        Run r = run("the earliest minute at which it can be at PLACE q");
        for (int i = 11; i >= 0; i--) r.does("cat(" + i % 8 + ", " + (i + 1) % 8 + ", " + (101 * (8 * i) + 8) + ")");
        r.does("reply(0, 0, 7) => 56", "reply(0, 1, 7) => NONE", "reply(7, 0, 4) => 96", "reply(0, 0, 1) => 8",
            "reply(0, 64, 4) => 96", "reply(0, 65, 4) => NONE");
    }

    private static void families() {
        Run r = run("told families, up to 8 (how many 1 .. 9)").does("family(0) => NONE", "family(10) => NONE",
            "family(-2) => NONE", "family(MIN) => NONE", "family(MAX) => NONE", "storm(1, NONE) => 0");
        for (int i = 1; i <= 8; i++) r.does("family(" + (i == 1 ? 9 : 1) + ") => " + i);
        r.does("family(1) => NONE", "storm(16, NONE) => 1", "storm(15, NONE) => 2", "storm(16, 1) => 1", "storm(15, 1) => 0",
            "family(NONE) => 0", "storm(1, NONE) => 0", "family(1) => 1", "storm(1, NONE) => 1");
    }

    private static void storm() {
        run("PORCHES of c (1 .. 30) each, k (1 .. 4)").does("family(9)", "storm(0, NONE) => NONE", "storm(31, NONE) => NONE",
            "storm(-1, NONE) => NONE", "storm(0, 1) => NONE", "storm(31, 1) => NONE", "storm(30, NONE) => 1",
            "storm(30, 0) => NONE", "storm(30, 5) => NONE", "storm(30, -2) => NONE", "storm(30, 1) => 1",
            "storm(30, 4) => 4", "storm(9, NONE) => 1", "storm(8, NONE) => NONE", "storm(8, 4) => 0", "storm(1, 1) => 0",
            "storm(MAX, 1) => NONE", "storm(1, MIN) => NONE");
        run("nobody comes").does("storm(1, NONE) => 0", "storm(30, NONE) => 0", "storm(1, 1) => 1", "storm(1, 4) => 1");
        run("eight by one, by all").times(8, "family(1)").does("storm(1, NONE) => 8", "storm(1, 4) => 0",
            "storm(2, NONE) => 4", "storm(2, 4) => 2520", "storm(8, 4) => 65536", "storm(30, 4) => 65536",
            "storm(7, 4) => 65532", "storm(8, 1) => 1", "storm(7, 1) => 0");
        run("seventy-two under thirties").times(8, "family(9)").does("storm(30, NONE) => 3", "storm(27, NONE) => 3",
            "storm(26, NONE) => 4", "storm(17, NONE) => 8", "storm(30, 2) => 0", "storm(30, 3) => 1680",
            "storm(18, 4) => 2520", "storm(9, NONE) => 8");
    }

    private static void boards() {
        run("heights (0 .. 99), up to 12").does("board(-2) => NONE", "board(100) => NONE", "board(MIN) => NONE",
            "board(MAX) => NONE", "level(0) => 0", "level(1) => 0", "board(99) => 1", "level(0) => 0", "level(1) => 0")
            .times(10, "board(0)").does("board(99) => 12", "board(99) => NONE", "level(1) => 990", "level(0) => NONE",
            "board(NONE) => 0", "level(0) => 0", "level(1) => 0", "board(0) => 1", "level(0) => 0");
        run("the fewest so that all are alike (NONE: they can't be)").does("board(99)").times(10, "board(0)")
            .does("level(0) => 495", "board(9) => 12", "level(0) => 495", "level(1) => 90", "board(NONE)", "board(0)",
            "board(1) => 2", "level(0) => NONE", "board(2) => 3", "level(0) => 2");
        run("NONE, too, for another what").does("level(2) => NONE", "level(-1) => NONE", "level(MIN) => NONE",
            "level(MAX) => NONE");
    }

    private static void talk() {
        run("up to 24 told words (0 .. 2)").does("talk(-2) => NONE", "talk(3) => NONE", "talk(MIN) => NONE",
            "talk(MAX) => NONE", "talks(0) => 0", "talks(1) => NONE").times(23, "talk(1)").does("talks(0) => 23",
            "talk(1) => 24", "talk(2) => NONE", "talks(0) => 24", "talks(1) => NONE", "talk(NONE) => 0", "talks(0) => 0",
            "talk(2) => 1", "talks(0) => 0", "talks(1) => 0");
        run("FIRST: the last of twenty-four").times(11, "talk(1)").times(12, "talk(2)").does("talks(1) => 22",
            "talk(2) => 24", "talks(1) => 22", "talk(NONE)").times(12, "talk(1)").times(11, "talk(2)")
            .does("talks(1) => NONE", "talk(2) => 24", "talks(1) => NONE", "talks(0) => 12", "talk(NONE)").times(23,
            "talk(0)").does("talk(2) => 24", "talks(1) => 23");
        run("WAYS of n (0 .. 15)").does("talks(10) => 1", "talks(11) => 1", "talks(24) => 2674440", "talks(25) => 9694845",
            "talks(26) => NONE", "talks(9) => NONE", "talks(2) => NONE", "talks(-1) => NONE", "talks(MIN) => NONE",
            "talks(MAX) => NONE");
        run("NONE for another what, where there is a FIRST").does("talk(1)", "talk(2)", "talk(2)", "talks(0) => 1",
            "talks(1) => 2", "talks(2) => NONE", "talks(9) => NONE", "talks(26) => NONE", "talks(-1) => NONE",
            "talks(MIN) => NONE", "talks(MAX) => NONE");
    }

    private static void half() {
        run("two told talks, up to 12 words each (0 .. 9), one of up to 24").does("half(0, -2) => NONE",
            "half(0, 10) => NONE", "half(1, -2) => NONE", "half(1, 10) => NONE", "half(2, -2) => NONE",
            "half(2, 10) => NONE", "half(-1, 0) => NONE", "half(3, 0) => NONE", "half(-1, NONE) => NONE",
            "half(3, NONE) => NONE", "half(MIN, 0) => NONE", "half(MAX, MAX) => NONE", "halves(1) => 1").times(12,
            "half(0, 9)").does("half(0, 9) => NONE").times(12, "half(1, 0)").does("half(1, 0) => NONE").times(12,
            "half(2, 0)").times(11, "half(2, 9)").does("halves(0) => 0", "half(2, 9) => 24", "half(2, 9) => NONE",
            "halves(0) => 1", "halves(1) => 1", "half(0, NONE) => 0", "halves(0) => 0", "half(0, 9) => 1",
            "half(2, NONE) => 0", "half(1, NONE) => 0", "halves(0) => 0", "half(2, 9) => 1", "halves(1) => 1");
        run("whether it can be (1, 0)").does("halves(0) => 1", "halves(1) => 1", "halves(2) => NONE", "halves(-1) => NONE",
            "halves(MIN) => NONE", "halves(MAX) => NONE", "half(2, 0)", "halves(0) => 0", "halves(1) => 0", "half(0, 0)",
            "halves(1) => 1", "half(1, 0)", "halves(1) => 0", "half(2, 0)", "halves(1) => 2", "half(2, 0)",
            "halves(1) => 0");
        // a word that is one less, or one more, is another one, whichever of the two tells it
        for (int which = 0; which <= 1; which++) {
            for (int word = 4; word <= 6; word++) {
                run("told by talk " + which + ": 5, heard: " + word).does("half(" + which + ", 5)", "half(2, " + word + ")",
                    "halves(0) => " + (word == 5 ? 1 : 0), "halves(1) => " + (word == 5 ? 1 : 0));
                run("told by both: 5 and 5, heard: 5 and " + word).does("half(0, 5)", "half(1, 5)", "half(2, 5)",
                    "half(2, " + word + ")", "halves(0) => " + (word == 5 ? 1 : 0), "halves(1) => " + (word == 5 ? 2 : 0));
            }
        }
        run("heard as long as can be").times(12, "half(0, 5)").times(12, "half(1, 5)").times(24, "half(2, 5)")
            .does("halves(0) => 1", "halves(1) => 2704156");
    }

    private static void swing() {
        run("up to 8 told weights (1 .. 60)").does("swing(0) => NONE", "swing(61) => NONE", "swing(-2) => NONE",
            "swing(MIN) => NONE", "swing(MAX) => NONE", "swings(0) => 0", "swings(1) => 0", "swing(60) => 1",
            "swings(0) => NONE", "swings(1) => NONE", "swing(1) => 2", "swings(0) => 59", "swings(1) => 1").times(5,
            "swing(1)").does("swings(0) => NONE", "swing(1) => 8", "swing(1) => NONE", "swings(0) => 59", "swings(1) => 15",
            "swing(NONE) => 0", "swings(0) => 0", "swings(1) => 0", "swing(1) => 1");
        run("as many on one seat as on the other; of several the least").does("swing(1)", "swing(2)", "swing(3)", "swing(4)",
            "swings(0) => 0", "swings(1) => 9", "swing(NONE)", "swing(7)", "swing(7)", "swings(0) => 0", "swings(1) => 1",
            "swing(NONE)").times(8, "swing(60)").does("swings(0) => 0", "swings(1) => 15", "swings(2) => NONE",
            "swings(-1) => NONE", "swings(MIN) => NONE", "swings(MAX) => NONE");
    }

    private static void quarrels() {
        Run r = run("up to 8 told couples (0 .. 7, unlike)").does("quarrel(-2, 0) => NONE", "quarrel(8, 0) => NONE",
            "quarrel(0, -1) => NONE", "quarrel(0, 8) => NONE", "quarrel(0, 0) => NONE", "quarrel(7, 7) => NONE",
            "quarrel(MIN, 0) => NONE", "quarrel(0, MAX) => NONE", "seated(8, 0) => 40320", "quarrel(0, 7) => 1",
            "quarrel(7, 0) => 2");
        for (int i = 3; i <= 8; i++) r.does("quarrel(0, 7) => " + i);
        r.does("quarrel(0, 1) => NONE", "seated(8, 0) => 30240", "seated(2, 0) => 2", "quarrel(NONE, 0) => 0",
            "seated(8, 0) => 40320", "quarrel(0, 1) => 1", "seated(2, 0) => 0");
    }

    private static void seated() {
        run("n (1 .. 8) in a row, round a table").does("seated(0, 0) => NONE", "seated(9, 0) => NONE",
            "seated(-1, 0) => NONE", "seated(0, 1) => NONE", "seated(9, 1) => NONE", "seated(MIN, 0) => NONE",
            "seated(MAX, 1) => NONE", "seated(3, 2) => NONE", "seated(3, -1) => NONE", "seated(3, MIN) => NONE",
            "seated(3, MAX) => NONE", "seated(1, 0) => 1", "seated(1, 1) => 1", "seated(2, 0) => 2", "seated(2, 1) => 1",
            "seated(8, 0) => 40320", "seated(8, 1) => 5040");
        run("couples of 0 .. n - 1 alone are asked").does("quarrel(2, 3)", "seated(3, 0) => 6", "seated(3, 1) => 2",
            "seated(4, 0) => 12", "seated(4, 1) => 2", "quarrel(7, 6)", "seated(7, 0) => 3600", "seated(8, 0) => 23040");
        // who quarrels with several has only the others beside him, whichever of a couple was told first
        run("no such sit side by side").does("quarrel(0, 1)", "quarrel(0, 2)", "seated(3, 0) => 0", "seated(4, 0) => 4",
            "seated(4, 1) => 0", "quarrel(3, 0)", "seated(4, 0) => 0", "seated(5, 0) => 12", "quarrel(NONE, 0)",
            "quarrel(1, 0)", "quarrel(2, 0)", "seated(3, 0) => 0", "seated(4, 0) => 4", "seated(5, 1) => 4");
        run("first and last one side by side, too").does("quarrel(0, 1)", "seated(1, 0) => 1", "seated(1, 1) => 1",
            "seated(2, 0) => 0", "seated(2, 1) => 0", "seated(3, 0) => 2", "seated(3, 1) => 0", "quarrel(NONE, 0)",
            "quarrel(1, 2)", "seated(3, 0) => 2", "seated(3, 1) => 0");
    }

    private static void last() {
        run("NONE if there is none such").does("last(0, 0) => NONE", "porch(1, 0)", "last(0, 0) => 0", "last(0, 1) => 0",
            "last(0, 2) => 1", "last(1, 0) => NONE", "last(-1, 0) => NONE", "last(MIN, 0) => NONE", "last(MAX, 0) => NONE",
            "last(0, 3) => NONE", "last(0, -1) => NONE", "last(0, MIN) => NONE", "last(0, MAX) => NONE");
        StringBuilder street = new StringBuilder("STREET: ");
        for (int i = 11; i > 0; i--) street.append("porch ").append(i).append(" by ").append(i - 1).append(" 99;");
        run("going by the shortest way").times(12, "porch(1, 0)").does(street + " => 11", "last(0, 0) => 11",
            "last(0, 1) => 1089", "last(0, 2) => 12", "last(11, 0) => 0", "last(11, 1) => 1089", "last(5, 0) => 11",
            "last(5, 1) => 594", "last(6, 0) => 0");
        run("of several the least; of several lines the shortest").times(4, "porch(1, 0)")
            .does("STREET: porch 3 by 2 7; porch 1 by 3 7; porch 1 by 3 99; => 3", "last(3, 0) => 1", "last(3, 1) => 7",
            "last(3, 2) => 3", "last(2, 0) => 1", "last(2, 1) => 14", "last(0, 0) => 0", "last(0, 1) => 0",
            "last(0, 2) => 1");
    }

    private static void steps() {
        run("STEPS of n (0 .. 40), paces (bits 0 .. 4)").does("steps(-1, 1, 0) => NONE", "steps(41, 1, 0) => NONE",
            "steps(MIN, 1, 0) => NONE", "steps(MAX, 1, 1) => NONE", "steps(5, -1, 0) => NONE", "steps(5, 32, 0) => NONE",
            "steps(5, MIN, 0) => NONE", "steps(5, MAX, 0) => NONE", "steps(5, 1, 2) => NONE", "steps(5, 1, -1) => NONE",
            "steps(0, 1, 2) => NONE", "steps(0, 0, 0) => 1", "steps(0, 31, 0) => 1", "steps(0, 0, 1) => 1",
            "steps(0, 31, 1) => 1", "steps(40, 0, 0) => 0", "steps(40, 0, 1) => 0", "steps(1, 0, 0) => 0",
            "steps(40, 1, 0) => 1", "steps(40, 1, 1) => 1", "steps(40, 16, 0) => 1", "steps(40, 16, 1) => 1",
            "steps(39, 16, 0) => 0", "steps(5, 16, 1) => 1", "steps(4, 16, 1) => 0", "steps(1, 31, 0) => 1",
            "steps(1, 31, 1) => 1", "steps(2, 31, 0) => 2", "steps(2, 31, 1) => 2", "steps(6, 31, 0) => 31");
        // by all paces the ways nearly double with each step
        long[] ways = new long[41];
        ways[0] = 1;
        Run r = run("modulo 1000000007");
        for (int n = 1; n <= 40; n++) {
            for (int p = 1; p <= 5 && p <= n; p++) ways[n] += ways[n - p];
            long alike = n <= 5 ? 1 : 0;
            for (int p = 1; p <= 5 && 2 * p <= n; p++) alike += ways[n - 2 * p];
            r.does("steps(" + n + ", 31, 0) => " + ways[n] % 1000000007L,
                "steps(" + n + ", 31, 1) => " + alike % 1000000007L);
        }
        due.is("modulo 1000000007 was needed", ways[40] > 1000000007L * 100, true);
    }

    private static void lamps() {
        run("three told cans (sizes 1 .. 12), just q (0 .. 12)").does("lamps(0, 1, 1, 0) => NONE",
            "lamps(13, 1, 1, 0) => NONE", "lamps(1, 0, 1, 0) => NONE", "lamps(1, 13, 1, 0) => NONE",
            "lamps(1, 1, 0, 0) => NONE", "lamps(1, 1, 13, 0) => NONE", "lamps(1, 1, 1, -1) => NONE",
            "lamps(1, 1, 1, 13) => NONE", "lamps(MIN, 1, 1, 0) => NONE", "lamps(1, MAX, 1, 0) => NONE",
            "lamps(1, 1, MIN, 0) => NONE", "lamps(1, 1, 1, MAX) => NONE", "lamps(1, 1, 1, 0) => 0", "lamps(1, 1, 1, 1) => 0",
            "lamps(1, 1, 1, 2) => NONE", "lamps(1, 1, 1, 12) => NONE", "lamps(12, 12, 12, 12) => 0",
            "lamps(12, 12, 12, 0) => 0", "lamps(12, 12, 12, 6) => NONE", "lamps(12, 12, 12, 1) => NONE",
            "lamps(12, 12, 12, 11) => NONE", "lamps(12, 5, 12, 1) => NONE", "lamps(12, 12, 5, 1) => NONE",
            "lamps(12, 5, 12, 5) => 1", "lamps(12, 12, 5, 7) => 1", "lamps(12, 1, 12, 11) => 1", "lamps(12, 11, 1, 1) => 1",
            "lamps(12, 11, 1, 2) => 3", "lamps(1, 12, 12, 1) => 0", "lamps(12, 7, 5, 6) => 10");
    }

    private static void hooks() {
        run("HOOKS of n (1 .. 9) hats, behind a 1").does("hooks(10, 0) => 1", "hooks(10, 1) => 0", "hooks(10, 2) => 0",
            "hooks(1, 0) => NONE", "hooks(0, 0) => NONE", "hooks(-1, 0) => NONE", "hooks(-10, 0) => NONE",
            "hooks(11, 0) => NONE", "hooks(20, 0) => NONE", "hooks(9, 0) => NONE", "hooks(MIN, 0) => NONE",
            "hooks(MAX, 0) => NONE", "hooks(1012345678, 0) => 9", "hooks(1012345678, 1) => 0", "hooks(1012345678, 2) => 0",
            "hooks(1876543210, 0) => 1", "hooks(1876543210, 1) => 36", "hooks(1876543210, 2) => 362879",
            "hooks(1012345679, 0) => NONE", "hooks(1012345677, 0) => NONE", "hooks(2012345678, 0) => NONE",
            "hooks(1876543211, 0) => NONE", "hooks(101, 2) => 0", "hooks(110, 2) => 1", "hooks(111, 2) => NONE",
            "hooks(100, 2) => NONE", "hooks(102, 2) => NONE", "hooks(112, 2) => NONE", "hooks(1012, 3) => NONE",
            "hooks(1012, -1) => NONE", "hooks(1012, MIN) => NONE", "hooks(1012, MAX) => NONE", "hooks(1, -1) => NONE");
    }

    private static void game() {
        run("GAME of a, b (1 .. 200)").does("game(0, 1) => NONE", "game(1, 0) => NONE", "game(0, 0) => NONE",
            "game(-1, 1) => NONE", "game(1, -1) => NONE", "game(201, 1) => NONE", "game(1, 201) => NONE",
            "game(201, 201) => NONE", "game(MIN, 1) => NONE", "game(1, MAX) => NONE", "game(1, 1) => 1",
            "game(200, 200) => 200", "game(200, 1) => 200", "game(1, 200) => 200", "game(200, 199) => NONE",
            "game(3, 2) => NONE", "game(2, 3) => NONE", "game(4, 2) => 4", "game(5, 2) => 2", "game(2, 5) => 2",
            "game(200, 100) => 200", "game(200, 101) => 101", "game(200, 124) => NONE", "game(200, 123) => 123",
            "game(199, 99) => 99");
    }
}
