/**
 * The document's A MINUTE, THE BOOK, GOES, SOONEST, UNDO and THE IMAGE, sentence by sentence: of each that names an edge the
 * last that can be, the first that can't on either side, empty and full.
 */
public final class MinuteEdgesTest {
    private static final Due due = new Due("MinuteEdgesTest");

    public static void main(String[] args) {
        eveningsAtMinute0();
        callsAtTheirMinute();
        rain();
        speaks();
        nextDoor();
        staysAsToldLong();
        lampGoesOut();
        spins();
        turnOfTheEvening();
        fullStreet();
        byHand();
        book150();
        bookLines();
        goes();
        soonest();
        undoSix();
        undoOfEach();
        undoForgets();
        image();
        look();
        due.close();
    }

    private static Run run(String sentence) {
        return new Run(due, sentence);
    }

    private static void eveningsAtMinute0() {
        run("(a) MINUTE 0: line by line of EVENINGS for it").does("porch(1, 0)", "person(0, 0)", "minutes(1)",
            "EVENINGS: in 0 oil 0 9; => 1", "minutes(1)", "porchOf(0, 1) => 0", "undo() => 1", "undo() => 0");
        run("(a) in the first and in a late EVENING").does("porch(1, 0)", "person(0, 0)", "set(0, 0, 40)",
            "EVENINGS: in 0 oil 0 99; in 3 oil 0 0; in 3 sweep 0; in 4 master 0 0; in 999 oil 0 7; => 5", "minutes(1)",
            "porchOf(0, 1) => 98", "look(4) => 0", "minutes(60)", "minutes(60)", "minutes(59)", "act(3, 0, 50)",
            "look(3) => 3", "look(2) => 0", "minutes(1)", "porchOf(0, 1) => 0", "porchOf(0, 2) => 1", "look(4) => 1",
            "book(0, 4) => 99", "minutes(59)", "porchOf(0, 3) => NONE", "minutes(1)", "porchOf(0, 3) => 0", "minutes(60)",
            "porchOf(0, 3) => 0");
        run("(a) line by line").does("porch(1, 0)", "person(0, 0)", "person(0, 0)",
            "EVENINGS: in 0 master 0 0; in 0 master 0 1; in 0 oil 0 5; in 0 oil 0 1; in 0 sweep 0; in 0 sweep 0; => 6",
            "minutes(1)", "porchOf(0, 3) => 1", "porchOf(0, 1) => 0", "look(4) => 2", "look(7) => 2");
    }

    private static void callsAtTheirMinute() {
        run("(b) for this MINUTE, 0 and 59; MINUTES 1 and 60").does("porch(2, 0)", "person(0, 0)", "person(0, 0)",
            "CALLS: person 0 at 0 on 0 for 60; person 1 at 59 on 0 for 60; => 2", "minutes(1)", "look(5) => 1",
            "minutes(58)", "look(5) => 1", "of(0, 3) => 59", "look(7) => 1", "minutes(1)", "look(5) => 0", "look(7) => 2",
            "book(1, 1) => 59", "minutes(1)", "look(5) => 1", "look(7) => 3");
        run("(b) he gets up when he has STAYED so many minutes").does("porch(2, 0)", "person(0, 0)",
            "CALLS: person 0 at 5 on 0 for 1; person 0 at 6 on 0 for 2; => 2", "minutes(5)", "of(0, 2) => NONE",
            "minutes(1)", "of(0, 2) => NONE", "look(7) => 1", "minutes(1)", "of(0, 2) => 0", "of(0, 3) => 1", "minutes(1)",
            "of(0, 2) => NONE", "of(0, 3) => 0", "look(7) => 2");
        run("(b) a PERSON who does not SIT, a CHAIR that is free").does("porch(1, 0)", "porch(1, 0)", "person(0, 0)",
            "person(0, 0)",
            "CALLS: person 0 at 0 on 0 for 9; person 0 at 0 on 1 for 9; person 1 at 0 on 0 for 9; person 1 at 0 on 1 for 3; => 4",
            "minutes(1)", "of(0, 2) => 0", "of(1, 2) => 1", "look(7) => 2", "minutes(2)", "look(5) => 1");
    }

    private static void rain() {
        for (int cobweb = 49; cobweb <= 52; cobweb++) {
            run("(b) COBWEB above 50: " + cobweb).does("porch(1, 0)", "person(0, 0)", "set(0, 0, " + cobweb + ")",
                "act(0, 0, 0)", "EVENINGS: in 0 rain 0; => 1", "minutes(1)", "of(0, 2) => " + (cobweb > 50 ? -1 : 0),
                "of(0, 3) => " + (cobweb > 50 ? 0 : 1));
        }
        run("(b) rain at this MINUTE: 59, and not at 58").does("porch(1, 0)", "person(9, 0)", "set(0, 0, 99)",
            "LAW: speaks 1000;", "EVENINGS: in 0 rain 59; in 1 rain 0; => 2", "minutes(58)", "act(0, 0, 0)",
            "minutes(1) => 1", "minutes(1) => 0", "act(0, 0, 0) => 1", "minutes(1) => 0", "look(5) => 0",
            "act(0, 0, 0) => 1", "minutes(1) => 1");
        // what is told of PORCH 5, or of PERSON 5, is no rain at MINUTE 5
        String[] dry = {"oil 5 5", "sweep 5", "master 5 5", "oil 0 5", "master 0 5"};
        for (String d : dry) {
            run("(b) rain alone: " + d).times(6, "porch(1, 0)").times(6, "person(0, 0)").does("set(0, 1, 99)",
                "EVENINGS: in 0 " + d + "; => 1", "minutes(5)", "act(0, 0, 1) => 1", "minutes(1)", "of(0, 2) => 1",
                "EVENINGS: in 0 " + d + "; in 0 rain 6; => 2", "minutes(1)", "of(0, 2) => NONE");
        }
        run("(b) who is called at that MINUTE gets up, too").does("porch(1, 0)", "person(0, 0)", "set(0, 0, 51)",
            "EVENINGS: in 0 rain 0; => 1", "CALLS: person 0 at 0 on 0 for 60; => 1", "minutes(1)", "look(5) => 0",
            "look(7) => 1");
    }

    private static void speaks() {
        run("(c) speaks is asked, is it above 0").does("porch(2, 0)", "person(0, 0)", "person(0, 9)", "act(0, 0, 0)",
            "act(0, 1, 0)", "state(7)", "LAW: speaks 0; => 1", "minutes(5) => 0", "look(8) => 7", "LAW: speaks 0-1; => 1",
            "minutes(5) => 0", "look(8) => 7", "LAW: speaks 1000; => 1", "minutes(5) => 10", "of(0, 4) => 5",
            "of(0, 5) => 5", "of(1, 4) => 5", "of(1, 5) => 5", "look(7) => 12", "LAW: speaks 9999; => 1", "minutes(1) => 2");
        // who does not sit, and who sits far off, is not of those who heard it
        run("(c) how many heard it on all PORCHES").does("porch(2, 0)", "porch(2, 0)", "porch(2, 0)", "person(1, 0)",
            "person(0, 0)", "person(0, 0)", "person(0, 0)", "person(0, 0)", "STREET: porch 0 by 1 10; porch 0 by 2 11;",
            "LAW: speaks 1000*tongue; hears 1000;", "act(0, 0, 0)", "minutes(1) => 1", "book(1, 4) => 0", "act(0, 1, 2)",
            "minutes(1) => 1", "book(3, 4) => 0", "act(0, 2, 0)", "minutes(1) => 1", "book(5, 4) => 1", "act(0, 3, 1)",
            "minutes(1) => 1", "book(7, 2) => 2", "book(7, 3) => 3", "book(7, 4) => 0", "book(8, 2) => 1", "book(8, 4) => 2",
            "of(1, 5) => 0", "of(2, 5) => 2", "of(3, 5) => 1", "of(4, 5) => 0");
        run("(c) alone on a PORCH").does("porch(2, 0)", "person(9, 9)", "LAW: speaks 1000;", "minutes(3) => 0",
            "look(8) => 0", "act(0, 0, 0)", "minutes(3) => 3", "of(0, 5) => 0", "book(1, 4) => 0");
    }

    /** Person 0 speaks on porch 0, person 1 sits on porch 1: so many feet, so likely heard. */
    private static void nextDoor() {
        for (int feet = 9; feet <= 12; feet++) {
            run("(c) 10 feet at most: " + feet).does("porch(1, 0)", "porch(1, 0)", "person(1, 0)", "person(0, 0)",
                "act(0, 0, 0)", "act(0, 1, 1)", "LAW: speaks 1000*tongue; hears 1000;", "STREET: porch 1 by 0 " + feet + ";",
                "minutes(3) => 3", "of(1, 5) => " + (feet <= 10 ? 3 : 0), "goes(2, 1) => " + (feet <= 10 ? 5 : 0),
                "book(2, 2) => " + (feet <= 10 ? 2 : 1));
        }
        // a line to a PORCH of a lesser, or a greater number is no line to this one
        String[] lines = {"0 by 2", "2 by 0", "0 by 1", "1 by 0", "1 by 2", "2 by 1"};
        for (String line : lines) {
            Run r = run("feet to PORCH p by STREET: " + line).times(3, "porch(1, 0)").does("STREET: porch " + line + " 7; => 1");
            for (int p = 0; p < 3; p++) {
                for (int q = 0; q < 3; q++) {
                    boolean there = p != q && line.indexOf((char) ('0' + p)) >= 0 && line.indexOf((char) ('0' + q)) >= 0;
                    r.does("porchOf(" + p + ", " + (10 + q) + ") => " + (there ? 7 : -1));
                }
            }
        }
        run("(c) of several between two the shortest").does("porch(1, 0)", "porch(1, 0)", "person(1, 0)", "person(0, 0)",
            "act(0, 0, 0)", "act(0, 1, 1)", "LAW: speaks 1000*tongue; hears 1000;",
            "STREET: porch 1 by 0 99; porch 0 by 1 10; porch 0 by 1 11; => 3", "porchOf(0, 11) => 10",
            "porchOf(1, 10) => 10", "minutes(1)", "of(1, 5) => 1", "STREET: porch 1 by 0 99; porch 0 by 1 11; => 2",
            "porchOf(0, 11) => 11", "minutes(1)", "of(1, 5) => 1");
        // two porches of 5 feet each way do not make one beside the other
        run("(c) a PORCH beside it").does("porch(1, 0)", "porch(1, 0)", "porch(1, 0)", "person(1, 0)", "person(0, 0)",
            "act(0, 0, 0)", "act(0, 1, 2)", "LAW: speaks 1000*tongue; hears 1000;",
            "STREET: porch 0 by 1 5; porch 1 by 2 5; => 2", "porchOf(0, 12) => NONE", "minutes(2)", "of(1, 5) => 0",
            "last(0, 1) => 10");
        run("(c) hears is asked of him, is it above 0").does("porch(1, 0)", "porch(1, 0)", "person(1, 0)", "person(0, 0)",
            "act(0, 0, 0)", "act(0, 1, 1)", "STREET: porch 1 by 0 1;", "LAW: speaks 1000*tongue; hears 0;", "state(0)",
            "minutes(1) => 1", "look(8) => 1013904223", "of(1, 5) => 0", "LAW: speaks 1000*tongue; hears 1;", "state(0)",
            "minutes(1) => 1", "look(8) => 1196435762", "LAW: speaks 0; hears 1000;", "state(0)", "minutes(1) => 0",
            "look(8) => 0", "of(1, 5) => 0");
    }

    private static void staysAsToldLong() {
        int[] told = {1, 2, 30, 59, 60};
        for (int t : told) {
            Run r = run("(d) has he STAYED as long as he was told: " + t).does("porch(1, 0)", "person(0, 0)",
                "CALLS: person 0 at 0 on 0 for " + t + "; => 1");
            if (t > 1) r.does("minutes(" + (t - 1) + ")", "of(0, 2) => 0", "of(0, 3) => " + (t - 1));
            r.does("minutes(1)", "of(0, 2) => NONE", "of(0, 3) => 0", "porchOf(0, 2) => 1");
        }
    }

    private static void lampGoesOut() {
        String[] two = {"porch(3, 0)", "person(0, 0)", "person(0, 0)", "person(0, 0)", "set(1, 0, 0)"};
        run("(e) LAMP above 0: one less; does it go out by that").does(two).does("act(0, 0, 0)", "act(0, 1, 0)",
            "minutes(1)", "look(6) => 0", "act(3, 0, 2)", "minutes(1)", "porchOf(0, 1) => 1", "look(6) => 0", "minutes(1)",
            "porchOf(0, 1) => 0", "look(6) => 2", "of(1, 6) => 0", "of(0, 6) => NONE", "act(0, 2, 0)", "minutes(1)",
            "look(6) => 2");
        run("(e) if he SITS there too").does(two).does("porch(1, 0)", "act(0, 1, 0)", "act(3, 0, 1)", "minutes(1)",
            "look(6) => 0", "act(0, 0, 1)", "act(3, 0, 1)", "minutes(1)", "look(6) => 0", "act(1, 0, 0)", "act(0, 0, 0)",
            "act(3, 0, 1)", "minutes(1)", "look(6) => 2");
        run("(e) the MASTER NONE, the MASTER alone").does(two).does("set(1, 0, NONE)", "act(0, 0, 0)", "act(3, 0, 1)",
            "minutes(1)", "look(6) => 0", "set(1, 0, 0)", "act(3, 0, 1)", "minutes(1)", "look(6) => 0", "look(7) => 1");
        run("(e) and is not ACCEPTED by anybody").does(two).does("act(0, 0, 0)", "act(0, 1, 0)", "act(3, 0, 1)",
            "minutes(1)", "of(1, 6) => 0", "set(1, 0, 2)", "act(0, 2, 0)", "act(3, 0, 1)", "minutes(1)", "of(1, 6) => 0",
            "of(0, 6) => 2", "of(2, 6) => NONE", "look(6) => 3");
        run("(e) behind (d): who gets up in this minute is not there").does(two).does("act(0, 0, 0)",
            "CALLS: person 1 at 0 on 0 for 2; => 1", "act(3, 0, 2)", "minutes(2)", "look(6) => 0", "undo()", "undo()",
            "undo()", "act(3, 0, 1)", "minutes(1)", "look(6) => 2");
        run("(e) filled to 0, it does not go out by burning").does(two).does("act(0, 0, 0)", "act(0, 1, 0)", "act(3, 0, 5)",
            "act(3, 0, 0)", "minutes(1)", "look(6) => 0", "porchOf(0, 1) => 0");
        run("(e) told no oil by EVENINGS, it does not go out by burning").does(two).does("act(0, 0, 0)", "act(0, 1, 0)",
            "act(3, 0, 5)", "EVENINGS: in 0 oil 0 0;", "minutes(1)", "look(6) => 0", "porchOf(0, 1) => 0");
        run("(e) at minute 59 all SIT still").does(two).does("minutes(59)", "act(0, 0, 0)", "act(0, 1, 0)", "act(3, 0, 1)",
            "minutes(1)", "look(5) => 0", "look(6) => 2", "book(2, 0) => 0", "book(2, 1) => 59", "book(2, 2) => 3");
    }

    private static void spins() {
        run("(f) nobody SITS: spins is asked").does("porch(2, 0)", "porch(2, 0)", "person(0, 0)", "act(0, 0, 0)",
            "minutes(1)", "porchOf(0, 2) => 0", "porchOf(1, 2) => 1", "act(1, 0, 0)", "minutes(1)", "porchOf(0, 2) => 1",
            "porchOf(1, 2) => 2", "LAW: spins 0;", "minutes(9)", "porchOf(0, 2) => 1", "LAW: spins 9;", "minutes(1)",
            "porchOf(0, 2) => 10", "LAW: spins 10;", "minutes(1)", "porchOf(0, 2) => 19", "LAW: spins 0-1;", "minutes(1)",
            "porchOf(0, 2) => 19");
        // of what is a PERSON's, spins is told nothing
        run("tongue, ears, stayed, said, heard: the PERSON's (spins: 0)").does("porch(2, 9)", "porch(2, 0)", "person(9, 9)",
            "person(9, 9)", "LAW: speaks 1000; spins tongue+ears+stayed+said+heard;", "act(0, 0, 0)", "act(0, 1, 0)",
            "minutes(3) => 6", "porchOf(1, 5) => 0", "porchOf(1, 2) => 0", "goes(9, 2) => 0",
            "LAW: spins tongue+ears+stayed+said+heard+lamp+sitting+minute+evening+cobweb;", "porchOf(1, 5) => 3",
            "porchOf(0, 5) => 9", "minutes(1)", "porchOf(1, 2) => 3", "goes(1, 2) => 10", "minutes(1)", "porchOf(1, 2) => 10");
        run("(f) of who got up in this minute").does("porch(2, 0)", "person(0, 0)", "CALLS: person 0 at 0 on 0 for 1;",
            "minutes(1)", "porchOf(0, 2) => 1");
    }

    private static void turnOfTheEvening() {
        run("(g) behind 59 it is 0, all get up, EVENING is one more").does("porch(6, 0)", "person(0, 0)", "person(0, 0)",
            "minutes(58)", "act(0, 0, 0)", "minutes(1)", "act(0, 1, 0)", "look(2) => 59", "look(5) => 3", "of(0, 3) => 1",
            "minutes(1)", "look(2) => 0", "look(3) => 1", "look(5) => 0", "of(0, 3) => 0", "porchOf(0, 2) => 58",
            "porchOf(0, 4) => 0");
    }

    /** Twenty sit on four porches of five; the last one speaks, is heard, gets wet, is accepted as the first one is. */
    private static void fullStreet() {
        Run r = run("twelve PORCHES, twenty PERSONS").times(12, "porch(5, 0)").times(20, "person(0, 0)")
            .does("LAW: speaks 1000;", "STREET: porch 11 by 10 10; porch 9 by 10 11;");
        for (int i = 0; i < 20; i++) r.does("act(0, " + i + ", " + (8 + i / 5) + ") => 1");
        r.does("look(5) => 1048575", "porchOf(11, 4) => 1015808", "set(1, 11, 19) => 1", "act(3, 11, 1) => 1",
            "minutes(1) => 20", "look(6) => 491520", "of(18, 6) => 19", "of(19, 6) => NONE", "of(19, 4) => 1", "of(19, 5) => 4",
            "of(0, 5) => 4", "set(0, 11, 51)", "EVENINGS: in 0 rain 1; => 1", "minutes(1) => 15", "look(5) => 32767",
            "of(19, 2) => NONE", "set(1, 8, 19)", "act(0, 19, 8) => 0", "act(1, 0, 0)", "act(0, 19, 8) => 1", "act(3, 8, 1)",
            "minutes(1) => 15", "look(6) => 491550", "minutes(57) => 855", "look(5) => 0", "of(19, 3) => 0", "look(3) => 1");
    }

    private static void byHand() {
        run("to SIT on a PORCH (SITS; no CHAIR)").does("porch(1, 0)", "porch(1, 0)", "person(0, 0)", "person(0, 0)",
            "act(0, 0, 0) => 1", "act(0, 0, 0) => 0", "act(0, 0, 1) => 0", "act(0, 1, 0) => 0", "act(0, 1, 1) => 1",
            "act(1, 0, 77) => 1", "act(1, 0, 77) => 0", "act(0, 0, 1) => 0", "act(0, 0, 0) => 1", "look(7) => 3");
        // who has stayed 60 gets up by (d), so that (f) finds nobody; who has not gets up by (g) alone
        run("to SIT for 60 minutes").does("porch(1, 0)", "person(0, 0)", "act(0, 0, 0)", "minutes(59)", "of(0, 3) => 59",
            "goes(1, 2) => 1", "minutes(1)", "of(0, 2) => NONE", "porchOf(0, 2) => 1", "minutes(1)", "act(0, 0, 0)",
            "minutes(59)", "of(0, 2) => NONE", "porchOf(0, 2) => 2");
        run("to SWEEP a PORCH, to fill a LAMP (0 .. 99)").does("porch(1, 5)", "act(2, 0, -7) => 1", "look(4) => 1",
            "act(2, 1, 0) => 0", "act(2, -1, 0) => 0", "look(4) => 1", "act(3, 0, 0) => 1", "porchOf(0, 1) => 0",
            "act(3, 0, 99) => 1", "porchOf(0, 1) => 99", "act(3, 0, 100) => 0", "act(3, 0, -1) => 0", "porchOf(0, 1) => 99",
            "act(3, 1, 5) => 0", "look(13) => 3");
        run("or another what").does("porch(1, 5)", "person(0, 0)", "act(-1, 0, 0) => 0", "act(4, 0, 0) => 0",
            "act(MIN, 0, 0) => 0", "act(MAX, 0, 0) => 0", "set(-1, 0, 0) => 0", "set(4, 0, 0) => 0", "set(MIN, 0, 0) => 0",
            "set(MAX, 0, 0) => 0", "look(13) => 0", "look(5) => 0", "look(7) => 0");
    }

    private static void book150() {
        run("THE BOOK (150 lines; no more then)").does("porch(1, 0)", "set(0, 0, 9)").times(149, "act(2, 0, 0) => 1")
            .does("look(7) => 149", "book(149, 0) => NONE", "set(0, 0, 77)", "act(2, 0, 0) => 1", "look(7) => 150",
            "book(149, 4) => 77", "set(0, 0, 66)", "act(2, 0, 0) => 1", "look(7) => 150", "look(4) => 151",
            "porchOf(0, 2) => 0", "book(149, 4) => 77", "book(150, 4) => NONE", "undo() => 1", "look(7) => 150",
            "porchOf(0, 2) => 66", "look(4) => 150", "undo() => 0");
        // of a minute that writes two lines the one that has room, and all that is done is done
        run("THE BOOK with room for one").does("porch(2, 0)", "person(9, 0)", "person(9, 0)", "act(0, 0, 0)", "act(0, 1, 0)",
            "LAW: speaks 1000;").times(147, "act(2, 0, 0) => 1").does("look(7) => 149", "minutes(1) => 2", "look(7) => 150",
            "book(149, 2) => 1", "book(149, 3) => 0", "of(1, 4) => 1", "of(0, 5) => 1", "undo() => 1", "look(7) => 149",
            "of(1, 4) => 0", "minutes(1) => 2", "look(7) => 150");
    }

    private static void bookLines() {
        run("Of line i of THE BOOK what 0 .. 4").does("porch(1, 0)", "person(0, 0)", "book(0, 0) => NONE", "minutes(60)",
            "minutes(7)", "act(0, 0, 0)", "book(0, 0) => 1", "book(0, 1) => 7", "book(0, 2) => 0", "book(0, 3) => 0",
            "book(0, 4) => 0", "book(0, 5) => NONE", "book(0, -1) => NONE", "book(-1, 0) => NONE", "book(1, 0) => NONE",
            "book(MIN, 0) => NONE", "book(MAX, 0) => NONE", "book(0, MIN) => NONE", "book(0, MAX) => NONE");
    }

    private static void goes() {
        for (int odds = 499; odds <= 501; odds++) {
            int so = odds >= 500 ? 1 : 0;
            run("one speaks, hears, if that is 500 at least: " + odds).does("porch(2, 0)", "porch(1, 0)", "person(1, 0)",
                "person(0, 0)", "person(0, 0)", "act(0, 0, 0)", "act(0, 1, 0)", "act(0, 2, 1)", "STREET: porch 0 by 1 10;",
                "LAW: speaks tongue*" + odds + "; hears 1000;", "goes(1, 0) => " + so, "goes(1, 1) => " + 2 * so,
                "LAW: speaks tongue*1000; hears " + odds + ";", "goes(60, 0) => 60", "goes(60, 1) => " + (60 + 60 * so),
                "look(8) => 0", "look(2) => 0");
        }
        run("GOES for n (1 .. 60) MINUTES").does("porch(1, 61)", "porch(1, 60)", "goes(0, 3) => NONE", "goes(61, 3) => NONE",
            "goes(-1, 3) => NONE", "goes(1, -1) => NONE", "goes(1, 4) => NONE", "goes(MIN, 0) => NONE",
            "goes(MAX, 0) => NONE", "goes(1, 3) => 119", "goes(59, 3) => 3", "goes(60, 3) => 1", "goes(60, 2) => 120",
            "goes(1, 2) => 2", "goes(60, 0) => 0", "goes(60, 1) => 0", "look(13) => 0", "look(2) => 0");
        run("GOES over the evening's end").does("porch(1, 0)", "person(0, 0)", "LAW: speaks 1000;",
            "EVENINGS: in 1 oil 0 5; in 1 sweep 0;", "CALLS: person 0 at 0 on 0 for 1;", "minutes(59)", "goes(1, 0) => " + 1,
            "goes(1, 3) => 0", "goes(2, 0) => 2", "goes(2, 3) => 4", "goes(2, 2) => 1", "goes(60, 2) => 59", "look(7) => 2",
            "look(4) => 0");
    }

    private static void soonest() {
        String[] two = {"porch(2, 0)", "person(0, 0)", "person(0, 0)", "set(1, 0, 0)",
            "CALLS: person 0 at 0 on 0 for 60; person 1 at 0 on 0 for 60;"};
        run("SOONEST, if so within 60 (NONE)").does(two).does("EVENINGS: in 0 oil 0 59; => 1", "soonest(1) => 59",
            "EVENINGS: in 0 oil 0 60; => 1", "soonest(1) => NONE", "EVENINGS: in 0 oil 0 1; => 1", "soonest(1) => 1",
            "soonest(0) => NONE", "soonest(2) => NONE", "soonest(-1) => NONE", "soonest(MIN) => NONE",
            "soonest(MAX) => NONE", "minutes(1)", "soonest(1) => 0", "soonest(0) => NONE", "minutes(60)", "soonest(1) => 0");
        run("SOONEST in the next EVENING: the 60th minute, the 61st").does(two).does("minutes(1)",
            "EVENINGS: in 1 oil 0 1; => 1", "soonest(1) => 60", "EVENINGS: in 1 oil 0 2; => 1", "soonest(1) => NONE",
            "minutes(1)", "soonest(1) => 60", "look(6) => 0");
    }

    private static void undoSix() {
        run("6 are kept").does("porch(1, 0)", "undo() => 0", "look(13) => 0", "minutes(5)", "look(13) => 5", "act(2, 0, 0)",
            "look(13) => 6", "act(3, 0, 9)", "look(13) => 6", "minutes(1)", "look(13) => 6", "undo() => 1", "undo() => 1",
            "undo() => 1", "look(2) => 5", "look(13) => 3", "undo() => 1", "undo() => 1", "undo() => 1", "look(2) => 2",
            "look(13) => 0", "undo() => 0", "look(2) => 2", "minutes(60)", "look(13) => 6").times(6, "undo() => 1")
            .does("undo() => 0", "look(2) => 56", "look(3) => 0");
        // the ring of six more than once around
        Run r = run("6 are kept, of many").does("porch(1, 0)");
        for (int i = 1; i <= 20; i++) r.does("act(3, 0, " + i + ") => 1", "look(13) => " + Math.min(6, i));
        for (int i = 19; i >= 14; i--) r.does("undo() => 1", "porchOf(0, 1) => " + i, "look(13) => " + (i - 14));
        r.does("undo() => 0", "porchOf(0, 1) => 14", "act(3, 0, 77)", "undo() => 1", "porchOf(0, 1) => 14", "undo() => 0");
    }

    private static void undoOfEach() {
        run("the latest MINUTE (STATE, THE BOOK, too)").does("porch(2, 1)", "person(9, 0)", "person(0, 0)", "set(1, 0, 0)",
            "state(5)", "LAW: speaks 1000;", "act(0, 0, 0)", "act(0, 1, 0)", "minutes(1) => 2", "look(7) => 5",
            "undo() => 1", "look(8) => 5", "look(7) => 2", "book(2, 0) => NONE", "of(0, 4) => 0", "of(1, 5) => 0",
            "of(0, 3) => 0", "of(1, 6) => NONE", "porchOf(0, 1) => 1", "look(2) => 0", "minutes(1) => 2", "look(7) => 5",
            "book(2, 2) => 1", "look(6) => 2");
        run("the latest SITTING, RISING, SWEEPING, FILLING").does("porch(1, 3)", "person(0, 0)", "set(0, 0, 44)",
            "act(0, 0, 0)", "undo() => 1", "of(0, 2) => NONE", "look(7) => 0", "act(0, 0, 0)", "minutes(2)", "act(1, 0, 0)",
            "undo() => 1", "of(0, 2) => 0", "of(0, 3) => 2", "act(2, 0, 0)", "undo() => 1", "porchOf(0, 2) => 44",
            "look(4) => 0", "look(7) => 1", "act(3, 0, 99)", "undo() => 1", "porchOf(0, 1) => 1", "look(13) => 3");
        run("who rose and sits again stays as long as he was told").does("porch(1, 0)", "person(0, 0)",
            "CALLS: person 0 at 0 on 0 for 3;", "minutes(1)", "act(1, 0, 0)", "undo() => 1", "minutes(1)", "of(0, 2) => 0",
            "minutes(1)", "of(0, 2) => NONE");
    }

    private static void undoForgets() {
        String[] forgets = {"state(0)", "porch(1, 1)", "person(1, 1)", "set(0, 0, 0)", "set(1, 0, NONE)", "set(2, 0, 1)",
            "set(3, 0, 1)", "CALLS: ", "EVENINGS: ", "CALLS: person 0 at 0 on 0 for 1;", "EVENINGS: in 0 rain 0;",
            "image(false)"};
        String[] keeps = {"LAW: ", "LAW: spins 1;", "STREET: ", "STREET: porch 0 by 1 5;", "wishes(0, 0, 43210)",
            "chair(2, 1)", "chair(NONE, 0)", "cat(0, 1, 5)", "cat(NONE, 0, 0)", "family(1)", "family(NONE)", "board(1)",
            "board(NONE)", "talk(1)", "talk(NONE)", "half(0, 1)", "half(1, 1)", "half(2, 1)", "half(2, NONE)", "swing(1)",
            "swing(NONE)", "quarrel(0, 1)", "quarrel(NONE, 0)", "image(true)", "steps(5, 1, 0)", "lamps(1, 1, 1, 1)",
            "hooks(1012, 0)", "game(5, 3)", "goes(5, 0)", "soonest(0)", "look(13)", "feed(1, 2, 3, 4, 5)", "end(0)",
            "text(4)", "LAW: spins", "CALLS: person", "EVENINGS: in", "STREET: porch", "porch(0, 0)", "person(10, 0)",
            "set(4, 0, 0)", "set(0, 0, 100)", "act(4, 0, 0)", "act(1, 0, 0)", "minutes(0)", "minutes(61)"};
        String[] street = {"porch(1, 0)", "porch(1, 0)", "person(0, 0)", "image(true)", "act(2, 0, 0)", "act(3, 0, 9)"};
        for (String f : forgets) {
            run("whatever else is told forgets them: " + f).does(street).does("look(13) => 2").does(f).does("look(13) => 0",
                "undo() => 0");
        }
        for (String k : keeps) {
            run("does not: " + k).does(street).does(k).does("look(13) => 2", "undo() => 1", "porchOf(0, 1) => 0",
                "undo() => 1", "look(4) => 0", "undo() => 0");
        }
    }

    private static void image() {
        run("false if there is none").does("image(false) => 0", "porch(1, 0)", "act(2, 0, 0)", "image(false) => 0",
            "look(13) => 1", "look(0) => 1");
        run("of nothing").does("image(true) => 1", "porch(1, 0)", "person(0, 0)", "LAW: spins 7;", "act(2, 0, 0)",
            "state(9)", "image(false) => 1", "look(0) => 0", "look(1) => 0", "look(4) => 0", "look(7) => 0", "look(8) => 0",
            "look(9) => 0", "look(13) => 0", "porchOf(0, 0) => -2", "porch(2, 2) => 0", "porchOf(0, 5) => 1",
            "image(false) => 1", "look(0) => 0");
        run("what can be undone (nothing then)").does("porch(1, 0)", "act(2, 0, 0)", "image(true) => 1", "look(13) => 1",
            "undo() => 1", "look(4) => 0", "act(3, 0, 5)", "image(false) => 1", "look(13) => 0", "undo() => 0",
            "look(4) => 1", "porchOf(0, 1) => 0");
        run("all but the TAPE, fault()").does("porch(1, 0)", "LAW: spins => NONE", "image(true) => 1", "TAPE: spins 4;",
            "image(false) => 1", "fault(0) => 1", "fault(1) => 5", "end(8) => 1", "text(0) => 1", "porchOf(0, 5) => 4",
            "image(false) => 1", "fault(0) => 0", "fault(1) => NONE", "end(1) => 0", "porchOf(0, 5) => 1");
        run("all that is and was told").does("porch(2, 7)", "person(3, 4)", "person(5, 6)", "set(0, 0, 8)", "set(1, 0, 1)",
            "state(9)", "act(0, 1, 0)", "act(2, 0, 0)", "minutes(2)", "image(true) => 1", "set(2, 0, 0)", "set(3, 0, 0)",
            "set(0, 0, 77)", "set(1, 0, NONE)", "act(1, 1, 0)", "act(3, 0, 55)", "act(2, 0, 0)", "minutes(60)", "state(1)",
            "porch(6, 6)", "person(9, 9)", "image(false) => 1", "of(0, 0) => 3", "of(0, 1) => 4", "of(1, 0) => 5",
            "of(1, 1) => 6", "of(1, 2) => 0", "of(1, 3) => 2", "porchOf(0, 0) => 2", "porchOf(0, 1) => 5",
            "porchOf(0, 2) => 0", "porchOf(0, 3) => 1", "look(0) => 1", "look(1) => 2", "look(2) => 2", "look(3) => 0",
            "look(4) => 1", "porch(1, 0) => 1", "porchOf(1, 2) => 0", "porchOf(1, 3) => NONE", "person(1, 1) => 2",
            "of(2, 4) => 0", "of(2, 2) => NONE");
        run("of a full street, gone back to more than once").times(12, "porch(6, 99)").times(20, "person(9, 9)")
            .does("image(true) => 1").does("act(0, 19, 11)", "minutes(60)", "image(false) => 1", "look(0) => 12",
            "look(1) => 20", "of(19, 4) => 0", "act(0, 19, 11) => 1", "minutes(9)", "image(false) => 1", "look(2) => 0",
            "look(7) => 0", "porchOf(11, 1) => 99", "look(5) => 0", "porch(1, 1) => NONE");
    }

    private static void look() {
        Run r = run("NONE for another what");
        for (int what = 0; what <= 13; what++) r.does("look(" + what + ") => 0");
        r.does("look(14) => NONE", "look(-1) => NONE", "look(MIN) => NONE", "look(MAX) => NONE");
    }
}
