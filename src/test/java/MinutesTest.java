/** Promises 7, 15 to 17, 41 and 42: what a minute does, the book, thought, what goes back, the image. */
public final class MinutesTest {
    private static final int NONE = PorchHours.NONE;
    private static final int LEAST = Integer.MIN_VALUE;
    private static final int MOST = Integer.MAX_VALUE;
    private static final Due due = new Due("MinutesTest");

    public static void main(String[] args) {
        minutesOfNobody();
        draws();
        likelihoods();
        nextDoor();
        nextDoorLaw();
        speechInTurns();
        evenings();
        calls();
        rain();
        leaving();
        lamps();
        cobwebs();
        midnight();
        fullBook();
        book();
        goes();
        soonest();
        thoughtLeavesNothing();
        undo();
        undoKeepsWhatWasTold();
        undoIsForgotten();
        image();
        imageOfAllThatWasTold();
        due.close();
    }

    /** Porches of so many chairs without oil, persons of tongue 0, ears 0. */
    private static PorchHours street(int porches, int chairs, int persons) {
        PorchHours x = new PorchHours();
        for (int i = 0; i < porches; i++) x.porch(chairs, 0);
        for (int i = 0; i < persons; i++) x.person(0, 0);
        return x;
    }

    private static int next(int state) {
        return 1664525 * state + 1013904223;
    }

    private static int drawn(int state) {
        return (next(state) >>> 8) % 1000;
    }

    private static void bookLine(String promise, PorchHours x, int line, int... want) {
        for (int what = 0; what < 5; what++) due.is(promise + ": book(" + line + ", " + what + ")", x.book(line, what), want[what]);
    }

    private static void minutesOfNobody() {
        PorchHours x = street(1, 1, 0);
        int[] wrong = {0, -1, 61, LEAST, MOST};
        for (int n : wrong) due.is("7: minutes(" + n + ")", x.minutes(n), NONE);
        due.is("7: look(2)", x.look(2), 0);
        due.is("7: look(13)", x.look(13), 0);
        due.is("7: porchOf(0, 2)", x.porchOf(0, 2), 0);
        due.is("7: minutes(60)", x.minutes(60), 0);
        due.is("7: minutes(1)", x.minutes(1), 0);
        due.is("7: look(3)", x.look(3), 1);
        due.is("7: look(2)", x.look(2), 1);
        due.is("7: porchOf(0, 2)", x.porchOf(0, 2), 61);
        due.is("7: STATE without a draw", x.look(8), 0);
    }

    /** With a state told, the draw decides whether one speaks whose odds lie about it. */
    private static void draws() {
        int[] states = {0, 1, -1, 12345, -987654321, MOST};
        for (int state : states) {
            int odds = drawn(state);
            for (int more = 0; more < 2; more++) {
                if (odds + more == 0) continue;
                PorchHours x = street(1, 2, 2);
                x.act(0, 0, 0);
                x.act(0, 1, 0);
                Due.tell(x, 0, "speaks " + (odds + more) + " when heard = 0 and said = 0 and tongue = 1;speaks 0;");
                x.set(2, 0, 1);
                x.state(state);
                due.is("7: minutes(1) from " + state + " at " + (odds + more), x.minutes(1), more);
                due.is("2: STATE behind one draw", x.look(8), next(state));
                due.is("7: SAID", x.of(0, 4), more);
                due.is("7: HEARD of the other", x.of(1, 5), more);
                due.is("7: HEARD of who spoke", x.of(0, 5), 0);
            }
        }
    }

    private static void likelihoods() {
        PorchHours x = street(1, 2, 2);
        x.act(0, 0, 0);
        x.act(0, 1, 0);
        x.state(3);
        due.is("7: odds of 0", x.minutes(3), 0);
        due.is("7: no draw for odds of 0", x.look(8), 3);
        Due.tell(x, 0, "speaks 1000;");
        due.is("7: odds of 1000", x.minutes(5), 10);
        int state = 3;
        for (int i = 0; i < 10; i++) state = next(state);
        due.is("7: a draw for each, even of 1000", x.look(8), state);
        due.is("7: of(0, 4)", x.of(0, 4), 5);
        due.is("7: of(1, 5)", x.of(1, 5), 5);
        due.is("7: of(0, 5)", x.of(0, 5), 5);
        due.is("7: look(7): two sat, ten spoke", x.look(7), 12);
        bookLine("15", x, 2, 0, 3, 1, 0, 1);
        bookLine("15", x, 3, 0, 3, 1, 1, 1);
        bookLine("15", x, 11, 0, 7, 1, 1, 1);
        // without a law: 60 times 9 are 540
        x = street(1, 1, 1);
        x.set(2, 0, 9);
        x.act(0, 0, 0);
        int spoken = 0;
        state = 0;
        for (int i = 0; i < 50; i++) {
            if (drawn(state) < 540) spoken++;
            state = next(state);
        }
        due.is("7: minutes(50) of 540", x.minutes(50), spoken);
        due.is("7: look(8)", x.look(8), state);
        due.is("7: alone nobody hears", x.book(1, 4), 0);
    }

    /** Porch 1 lies 10 feet from 0, porch 2 11 feet from 0, porch 3 9 feet from 1. */
    private static void nextDoor() {
        PorchHours x = street(4, 2, 5);
        Due.tell(x, 3, "porch 0 by 1 10; porch 2 by 0 11; porch 1 by 3 9;");
        x.act(0, 0, 0);
        x.act(0, 1, 0);
        x.act(0, 2, 1);
        x.act(0, 3, 2);
        x.act(0, 4, 3);
        Due.tell(x, 0, "speaks 1000 when tongue > 0; hears 1000;");
        x.set(2, 1, 1);
        x.state(0);
        due.is("7: minutes(1)", x.minutes(1), 1);
        int[] heard = {1, 0, 1, 0, 0};
        for (int i = 0; i < 5; i++) due.is("7: HEARD of " + i, x.of(i, 5), heard[i]);
        due.is("7: a draw for the speaker, one for the porch beside", x.look(8), next(next(0)));
        due.is("15: look(7)", x.look(7), 7);
        bookLine("15", x, 5, 0, 0, 2, 2, 1);
        bookLine("15", x, 6, 0, 0, 1, 1, 2);
        // a shorter line between the same two counts; who got up hears nothing
        Due.tell(x, 3, "porch 0 by 1 99; porch 2 by 0 11; porch 0 by 2 10;");
        x.act(1, 4, 0);
        x.minutes(1);
        int[] more = {2, 0, 1, 1, 0};
        for (int i = 0; i < 5; i++) due.is("7: HEARD then of " + i, x.of(i, 5), more[i]);
    }

    /** Odds of hearing lie about the second draw; they are those of the speaker's porch and the hearer. */
    private static void nextDoorLaw() {
        int first = next(0);
        int odds = drawn(first);
        for (int more = 0; more < 2; more++) {
            PorchHours x = street(2, 2, 3);
            Due.tell(x, 3, "porch 1 by 0 1;");
            x.act(0, 0, 1);
            x.act(0, 1, 0);
            x.act(0, 2, 0);
            x.set(2, 0, 1);
            x.set(3, 2, 1);
            x.act(3, 1, 50);
            Due.tell(x, 0, "speaks 1000 when tongue=1;hears " + (odds + more) + " when lamp=50 and sitting=1 and ears=1;hears 0;");
            x.state(0);
            x.minutes(1);
            due.is("14: HEARD of 1", x.of(1, 5), 0);
            due.is("14: HEARD of 2", x.of(2, 5), more);
            due.is("14: one draw for hearing", x.look(8), next(first));
            due.is("15: how many heard it", x.book(x.look(7) - 1, 4), more);
            if (more == 1) bookLine("15", x, 3, 0, 0, 2, 2, 0);
        }
    }

    /** The law is asked when it is one's turn: who heard in this minute is silent. */
    private static void speechInTurns() {
        PorchHours x = street(1, 3, 3);
        x.act(0, 2, 0);
        x.act(0, 1, 0);
        x.act(0, 0, 0);
        Due.tell(x, 0, "speaks 1000 when heard = 0;");
        due.is("7: one alone speaks", x.minutes(1), 1);
        due.is("7: it is the first person", x.of(0, 4), 1);
        Due.tell(x, 0, "speaks 1000 when heard < 2 and not said = 1; speaks 0;");
        due.is("7: then the second, then no other", x.minutes(1), 1);
        due.is("7: SAID of 1", x.of(1, 4), 1);
        due.is("7: HEARD of 2", x.of(2, 5), 2);
    }

    private static void evenings() {
        PorchHours x = street(2, 1, 2);
        x.set(0, 0, 60);
        x.set(0, 1, 20);
        due.is("10: EVENINGS", Due.tell(x, 2, "in 0 oil 0 5; in 0 sweep 0; in 0 oil 0 7; in 1 sweep 1; in 1 sweep 1; in 1 master 1 1;"
            + "in 2 master 1 0; in 1 oil 1 99;"), 8);
        due.is("7: nothing before the minute", x.porchOf(0, 1), 0);
        x.minutes(1);
        due.is("7: the later line of two", x.porchOf(0, 1), 6);
        due.is("7: swept at minute 0, spun at its end", x.porchOf(0, 2), 1);
        due.is("7: not this one", x.porchOf(1, 2), 21);
        due.is("7: SWEPT", x.look(4), 1);
        bookLine("15", x, 0, 0, 0, 4, 0, 60);
        x.minutes(1);
        due.is("7: at minute 0 alone", x.porchOf(0, 1), 5);
        x.minutes(58);
        due.is("7: of the next evening not yet", x.look(4), 1);
        x.minutes(1);
        due.is("7: SWEPT of evening 1", x.look(4), 3);
        due.is("7: LAMP of evening 1", x.porchOf(1, 1), 98);
        due.is("7: MASTER of evening 1", x.porchOf(1, 3), 1);
        bookLine("15", x, 1, 1, 0, 4, 1, 80);
        bookLine("15", x, 2, 1, 0, 4, 1, 0);
        due.is("15: look(7)", x.look(7), 3);
        x.minutes(60);
        due.is("7: MASTER of evening 2", x.porchOf(1, 3), 0);
    }

    private static void calls() {
        PorchHours x = street(2, 1, 4);
        x.act(0, 3, 1);
        due.is("10: CALLS", Due.tell(x, 1, "person 0 at 2 on 0 for 2; person 1 at 2 on 0 for 1; person 1 at 2 on 1 for 1;"
            + "person 3 at 2 on 0 for 9; person 2 at 4 on 0 for 60; person 0 at 4 on 0 for 1; person 2 at 1 on 1 for 60;"), 7);
        x.minutes(2);
        due.is("7: no chair at minute 1", x.of(2, 2), NONE);
        x.minutes(1);
        due.is("7: came at 2", x.of(0, 2), 0);
        due.is("7: STAYED", x.of(0, 3), 1);
        due.is("7: found no chair", x.of(1, 2), NONE);
        due.is("7: sat elsewhere", x.of(3, 2), 1);
        bookLine("15", x, 0, 0, 0, 0, 3, 1);
        bookLine("15", x, 1, 0, 2, 0, 0, 0);
        due.is("15: look(7)", x.look(7), 2);
        x.minutes(1);
        due.is("7: gets up behind two", x.of(0, 2), NONE);
        due.is("7: STAYED then", x.of(0, 3), 0);
        x.minutes(1);
        due.is("7: the earlier line of two at 4", x.porchOf(0, 4), 4);
        bookLine("15", x, 2, 0, 4, 0, 2, 0);
        x.minutes(56);
        due.is("7: look(2)", x.look(2), 1);
        due.is("7: at evening's end all get up", x.look(5), 0);
        x.minutes(1);
        due.is("7: called in each evening", x.of(2, 2), 1);
    }

    private static void rain() {
        PorchHours x = street(2, 3, 4);
        Due.tell(x, 2, "in 0 rain 1; in 1 rain 0; in 0 rain 3;");
        Due.tell(x, 1, "person 2 at 1 on 0 for 60;");
        Due.tell(x, 0, "speaks 1000;");
        x.set(0, 0, 51);
        x.set(0, 1, 50);
        x.act(0, 0, 0);
        x.act(0, 1, 1);
        x.act(0, 3, 0);
        due.is("7: before the rain", x.minutes(1), 3);
        due.is("7: in the rain one alone sits dry", x.minutes(1), 1);
        due.is("7: look(5)", x.look(5), 2);
        due.is("7: who came and got wet stands in the book", x.book(6, 3), 2);
        due.is("7: porchOf(0, 2) with nobody there", x.porchOf(0, 2), 52);
        x.act(0, 0, 0);
        x.act(2, 0, 0);
        x.minutes(1);
        x.set(0, 1, 99);
        x.minutes(1);
        due.is("7: the second rain, one porch swept", x.look(5), 1);
        due.is("7: STAYED of the wet one", x.of(1, 3), 0);
        x.minutes(56);
        x.act(0, 1, 1);
        x.act(0, 0, 0);
        x.minutes(1);
        due.is("7: rain of the next evening at 0", x.look(5), 1);
        x.act(0, 1, 1);
        x.minutes(1);
        due.is("7: rain of another evening's minute, and one was called", x.look(5), 7);
    }

    private static void leaving() {
        PorchHours x = street(1, 3, 2);
        Due.tell(x, 1, "person 0 at 0 on 0 for 1; person 1 at 1 on 0 for 59;");
        Due.tell(x, 0, "speaks 1000;");
        due.is("7: who stays one minute speaks", x.minutes(1), 1);
        due.is("7: and gets up", x.of(0, 2), NONE);
        due.is("7: minutes(1)", x.minutes(1), 1);
        x.act(1, 1, 0);
        x.act(0, 1, 0);
        due.is("7: STAYED anew", x.of(1, 3), 0);
        x.minutes(1);
        due.is("7: STAYED", x.of(1, 3), 1);
        x.minutes(56);
        due.is("7: look(2)", x.look(2), 59);
        due.is("7: STAYED", x.of(1, 3), 57);
        x.minutes(1);
        due.is("7: up at the end", x.of(1, 2), NONE);
        x = street(1, 1, 1);
        x.minutes(1);
        x.act(0, 0, 0);
        x.minutes(58);
        due.is("6: by hand for 60, not told less", x.of(0, 3), 58);
    }

    private static void lamps() {
        PorchHours x = street(2, 4, 6);
        x.set(1, 0, 1);
        for (int i = 0; i < 4; i++) x.act(0, i, 0);
        x.act(0, 4, 1);
        x.act(3, 0, 2);
        x.act(3, 1, 1);
        x.minutes(1);
        due.is("7: LAMP", x.porchOf(0, 1), 1);
        due.is("7: out, but without a master", x.look(6), 0);
        x.act(1, 3, 0);
        x.minutes(1);
        due.is("7: who sits there but the master", x.look(6), 5);
        due.is("7: by whom", x.of(2, 6), 1);
        bookLine("15", x, 5, 0, 1, 3, 0, 1);
        bookLine("15", x, 6, 0, 1, 3, 2, 1);
        due.is("15: look(7)", x.look(7), 7);
        x.minutes(1);
        due.is("7: a lamp that is out goes out no more", x.porchOf(0, 1), 0);
        // accepted by one, no other accepts; a master who sits elsewhere accepts nobody
        x.set(1, 0, 2);
        x.act(0, 5, 0);
        x.act(3, 0, 1);
        x.minutes(1);
        due.is("7: accepted once", x.of(0, 6), 1);
        due.is("7: a master is accepted by another", x.of(1, 6), 2);
        due.is("7: of(5, 6)", x.of(5, 6), 2);
        x.act(0, 3, 1);
        x.set(1, 1, 0);
        x.act(3, 1, 1);
        x.minutes(1);
        due.is("7: the master sits elsewhere", x.of(3, 6), NONE);
        x.act(3, 0, 9);
        x.act(3, 0, 0);
        x.minutes(1);
        due.is("7: emptied by hand accepts nobody", x.of(4, 6), NONE);
        // who gets up in the minute in which it goes out is not accepted
        x = street(1, 3, 3);
        x.set(1, 0, 0);
        x.act(0, 0, 0);
        x.act(3, 0, 2);
        Due.tell(x, 1, "person 1 at 0 on 0 for 2; person 2 at 0 on 0 for 3;");
        x.minutes(2);
        due.is("7: stayed past it", x.look(6), 4);
    }

    private static void cobwebs() {
        PorchHours x = street(2, 2, 1);
        x.act(0, 0, 1);
        Due.tell(x, 0, "spins 9 when minute = 1; spins minute + evening;");
        x.minutes(1);
        due.is("7: spins at minute 0", x.porchOf(0, 2), 0);
        x.minutes(1);
        due.is("7: spins at minute 1", x.porchOf(0, 2), 9);
        x.minutes(1);
        due.is("7: spins at minute 2", x.porchOf(0, 2), 11);
        due.is("7: none where one sits", x.porchOf(1, 2), 0);
        x.set(0, 0, 98);
        x.minutes(1);
        due.is("7: 99 at most", x.porchOf(0, 2), 99);
        x.minutes(1);
        due.is("7: 99 at most, again", x.porchOf(0, 2), 99);
        Due.tell(x, 0, "spins cobweb; ");
        x.set(0, 0, 2);
        x.act(1, 0, 0);
        x.set(0, 1, 3);
        x.minutes(1);
        due.is("7: by its own cobweb", x.porchOf(0, 2), 4);
        due.is("7: by its own cobweb", x.porchOf(1, 2), 6);
        x.minutes(1);
        due.is("7: by its own cobweb", x.porchOf(1, 2), 12);
        x.minutes(1);
        due.is("7: nine at most", x.porchOf(1, 2), 21);
    }

    private static void midnight() {
        PorchHours x = street(1, 2, 2);
        x.minutes(59);
        x.act(0, 0, 0);
        due.is("7: look(2)", x.look(2), 59);
        due.is("7: spun 59 times", x.porchOf(0, 2), 59);
        x.minutes(1);
        due.is("7: look(2)", x.look(2), 0);
        due.is("7: look(3)", x.look(3), 1);
        due.is("7: who sat kept the cobwebs off", x.porchOf(0, 2), 59);
        due.is("7: all get up", x.of(0, 2), NONE);
        due.is("7: STAYED", x.of(0, 3), 0);
        due.is("7: the chair is free", x.act(0, 1, 0) && x.act(0, 0, 0), true);
        for (int i = 0; i < 200; i++) x.minutes(60);
        due.is("7: look(3)", x.look(3), 201);
    }

    private static void fullBook() {
        PorchHours x = street(1, 3, 3);
        x.set(2, 0, 1);
        Due.tell(x, 0, "speaks 1000 when tongue=1; speaks 0;");
        for (int i = 0; i < 3; i++) x.act(0, i, 0);
        x.minutes(50);
        x.minutes(10);
        for (int i = 0; i < 3; i++) x.act(0, i, 0);
        x.minutes(60);
        x.act(0, 0, 0);
        due.is("15: look(7)", x.look(7), 3 + 60 + 3 + 60 + 1);
        x.minutes(22);
        due.is("15: look(7)", x.look(7), 149);
        x.set(0, 0, 5);
        x.act(2, 0, 0);
        due.is("15: look(7)", x.look(7), 150);
        bookLine("15", x, 149, 2, 22, 4, 0, 5);
        x.minutes(1);
        x.act(2, 0, 0);
        due.is("15: no more than 150", x.look(7), 150);
        bookLine("15", x, 149, 2, 22, 4, 0, 5);
        due.is("15: book(150, 0)", x.book(150, 0), NONE);
        due.is("7: but it was done", x.look(4), 2);
        x.undo();
        due.is("41: what was written before stays", x.look(7), 150);
        x.undo();
        due.is("41: look(7)", x.look(7), 150);
        x.undo();
        due.is("41: the 150th goes back", x.look(7), 149);
        due.is("15: book(149, 0)", x.book(149, 0), NONE);
    }

    private static void book() {
        PorchHours x = street(3, 1, 3);
        x.minutes(7);
        x.act(0, 2, 1);
        due.is("15: look(7)", x.look(7), 1);
        bookLine("15", x, 0, 0, 7, 0, 2, 1);
        int[][] none = {{1, 0}, {-1, 0}, {0, 5}, {0, -1}, {LEAST, 0}, {MOST, 0}, {0, LEAST}, {0, MOST}};
        for (int[] n : none) due.is("15: book(" + n[0] + ", " + n[1] + ")", x.book(n[0], n[1]), NONE);
        x.act(1, 2, 0);
        x.act(3, 1, 4);
        due.is("15: rising and filling are not written", x.look(7), 1);
    }

    private static void goes() {
        PorchHours x = street(3, 2, 4);
        x.set(2, 0, 9);
        x.set(2, 1, 8);
        x.set(3, 2, 5);
        x.set(3, 3, 4);
        Due.tell(x, 3, "porch 0 by 1 3;");
        x.act(0, 0, 0);
        x.act(0, 1, 0);
        x.act(0, 2, 1);
        x.act(0, 3, 1);
        x.act(3, 0, 3);
        x.act(3, 1, 9);
        // 540 speaks, 480 does not; 500 hears, 400 does not
        due.is("16: SAID", x.goes(2, 0), 2);
        due.is("16: HEARD", x.goes(2, 1), 4);
        due.is("16: COBWEBS", x.goes(2, 2), 2);
        due.is("16: LAMPS", x.goes(2, 3), 8);
        due.is("16: LAMPS that are out", x.goes(5, 3), 4);
        due.is("16: goes(60, 0)", x.goes(60, 0), 60);
        due.is("16: goes(60, 2): the others have got up by the last minute's end", x.goes(60, 2), 62);
        due.is("16: goes(60, 3)", x.goes(60, 3), 0);
        Due.tell(x, 0, "speaks 499;");
        due.is("16: 499 does not speak", x.goes(9, 0), 0);
        Due.tell(x, 0, "speaks 500; hears 499;");
        due.is("16: 500 speaks", x.goes(9, 0), 36);
        due.is("16: heard on the same porch alone", x.goes(1, 1), 4);
        x.minutes(3);
        due.is("16: and what was before", x.goes(1, 0), x.of(0, 4) + x.of(1, 4) + x.of(2, 4) + x.of(3, 4) + 4);
        int[][] none = {{0, 0}, {61, 0}, {-1, 0}, {1, -1}, {1, 4}, {LEAST, 0}, {MOST, 0}, {1, LEAST}, {1, MOST}};
        for (int[] n : none) due.is("16: goes(" + n[0] + ", " + n[1] + ")", x.goes(n[0], n[1]), NONE);
        // calls, evenings, rain and the evening's end are thought of, too
        x = street(1, 1, 2);
        Due.tell(x, 0, "speaks 1000;");
        Due.tell(x, 1, "person 0 at 3 on 0 for 2; person 1 at 5 on 0 for 60;");
        Due.tell(x, 2, "in 1 oil 0 50; in 0 rain 58; in 1 sweep 0;");
        due.is("16: SAID before", x.goes(3, 0), 0);
        due.is("16: SAID by calls", x.goes(5, 0), 2);
        due.is("16: SAID by all", x.goes(60, 0), 57);
        due.is("16: COBWEBS of minutes 0, 1, 2 and 4", x.goes(60, 2), 4);
        x.minutes(1);
        due.is("16: LAMPS of the next evening", x.goes(60, 3), 49);
        due.is("16: COBWEBS swept", x.goes(60, 2), 1);
    }

    private static void soonest() {
        PorchHours x = street(2, 3, 4);
        x.set(1, 0, 0);
        x.act(0, 0, 0);
        x.act(0, 1, 0);
        x.act(3, 0, 7);
        Due.tell(x, 1, "person 2 at 9 on 0 for 5;");
        Due.tell(x, 2, "in 0 oil 1 60;");
        due.is("17: soonest(1)", x.soonest(1), 7);
        due.is("17: soonest(0): the master", x.soonest(0), NONE);
        due.is("17: soonest(2): later", x.soonest(2), NONE);
        due.is("17: soonest(3)", x.soonest(3), NONE);
        int[] none = {-1, 4, 20, LEAST, MOST};
        for (int n : none) due.is("17: soonest(" + n + ")", x.soonest(n), NONE);
        x.act(3, 0, 12);
        due.is("17: soonest(2)", x.soonest(2), 12);
        x.minutes(12);
        due.is("17: accepted already", x.soonest(2), 0);
        due.is("17: accepted already", x.soonest(1), 0);
        // within 60: behind the 60th, not behind the 61st
        for (int oil = 60; oil <= 61; oil++) {
            x = street(1, 2, 2);
            x.set(1, 0, 0);
            Due.tell(x, 1, "person 0 at 0 on 0 for 60; person 1 at 0 on 0 for 60;");
            x.minutes(1);
            Due.tell(x, 2, "in 1 oil 0 " + (oil - 59) + ";");
            due.is("17: at 60 or 61", x.soonest(1), oil == 60 ? 60 : NONE);
        }
    }

    private static void thoughtLeavesNothing() {
        PorchHours x = street(2, 2, 3);
        Due.tell(x, 0, "speaks 1000;");
        Due.tell(x, 2, "in 0 sweep 1; in 0 master 1 2; in 0 oil 1 40;");
        Due.tell(x, 1, "person 2 at 1 on 1 for 3;");
        x.set(0, 1, 70);
        x.set(1, 0, 0);
        x.act(0, 0, 0);
        x.act(0, 1, 0);
        x.act(3, 0, 3);
        x.state(99);
        x.act(3, 0, 4);
        x.goes(60, 0);
        x.soonest(1);
        int[] looks = {2, 3, 0, 0, 0, 3, 0, 2, 99};
        for (int what = 0; what < 9; what++) due.is("16: look(" + what + ") behind thought", x.look(what), looks[what]);
        due.is("16: look(13) behind thought", x.look(13), 1);
        int[][] porches = {{4, 0, 0}, {0, 70, NONE}};
        for (int i = 0; i < 2; i++) {
            for (int what = 0; what < 3; what++) {
                due.is("17: porchOf(" + i + ") behind thought", x.porchOf(i, 1 + what), porches[i][what]);
            }
        }
        int[] want = {0, 0, 0, 0, 0, 0, NONE};
        for (int what = 0; what < 7; what++) due.is("17: of(0, " + what + ") behind thought", x.of(0, what), want[what]);
        due.is("17: the chair is not taken in thought", x.act(0, 2, 1), true);
        x.goes(3, 0);
        x.act(2, 1, 0);
        due.is("17: indeed it is written again", x.look(7), 4);
    }

    private static void undo() {
        PorchHours x = street(2, 2, 3);
        x.set(1, 0, 0);
        x.set(0, 1, 33);
        x.state(5);
        Due.tell(x, 0, "speaks 1000; hears 1000;");
        Due.tell(x, 3, "porch 0 by 1 1;");
        due.is("41: sit", x.act(0, 0, 0) && x.act(0, 1, 0) && x.act(0, 2, 1), true);
        x.act(3, 0, 1);
        x.minutes(1);
        due.is("41: look(13)", x.look(13), 5);
        due.is("41: accepted", x.of(1, 6), 0);
        due.is("41: look(7)", x.look(7), 3 + 4 + 3 + 1);
        due.is("41: undo the minute", x.undo(), true);
        int[] looks = {2, 3, 0, 0, 0, 7, 0, 3, 5};
        for (int what = 0; what < 9; what++) due.is("41: look(" + what + ")", x.look(what), looks[what]);
        int[] want = {0, 0, 1, 0, 0, 0, NONE, 1000};
        for (int what = 0; what < 8; what++) due.is("41: of(2, " + what + ")", x.of(2, what), want[what]);
        due.is("41: of(1, 6)", x.of(1, 6), NONE);
        due.is("41: LAMP", x.porchOf(0, 1), 1);
        due.is("41: book(3, 0)", x.book(3, 0), NONE);
        due.is("41: look(13)", x.look(13), 4);
        due.is("41: undo the filling", x.undo(), true);
        due.is("41: LAMP", x.porchOf(0, 1), 0);
        due.is("41: undo the sitting", x.undo(), true);
        due.is("41: of(2, 2)", x.of(2, 2), NONE);
        due.is("41: look(7)", x.look(7), 2);
        x.act(0, 2, 1);
        x.act(1, 2, 0);
        x.act(2, 1, 0);
        due.is("41: undo the sweeping", x.undo(), true);
        due.is("41: COBWEB", x.porchOf(1, 2), 33);
        due.is("41: SWEPT", x.look(4), 0);
        due.is("41: look(7)", x.look(7), 3);
        due.is("41: undo the rising", x.undo(), true);
        due.is("41: of(2, 2)", x.of(2, 2), 1);
        due.is("41: the chair is taken again", x.porchOf(1, 4), 4);
        due.is("41: look(13)", x.look(13), 3);
        due.is("41: undo() and undo() and undo()", x.undo() && x.undo() && x.undo(), true);
        due.is("41: nothing is left", x.undo(), false);
        due.is("41: look(5)", x.look(5), 0);
        // six are kept, each minute is one, MASTER and the clock go back
        Due.tell(x, 2, "in 1 master 1 2; in 1 oil 0 9;");
        x.minutes(60);
        due.is("41: look(13)", x.look(13), 6);
        x.minutes(2);
        due.is("41: MASTER", x.porchOf(1, 3), 2);
        for (int i = 0; i < 6; i++) due.is("41: undo()", x.undo(), true);
        due.is("41: a seventh", x.undo(), false);
        due.is("41: look(2)", x.look(2), 56);
        due.is("41: look(3)", x.look(3), 0);
        due.is("41: MASTER", x.porchOf(1, 3), NONE);
        due.is("41: COBWEB", x.porchOf(0, 2), 56);
        x.minutes(7);
        due.is("41: MASTER again", x.porchOf(1, 3), 2);
        due.is("41: look(13)", x.look(13), 6);
        x.undo();
        x.undo();
        x.act(2, 0, 0);
        due.is("41: look(13)", x.look(13), 5);
        for (int i = 0; i < 5; i++) due.is("41: undo()", x.undo(), true);
        due.is("41: as many as were kept", x.undo(), false);
        due.is("41: look(2)", x.look(2), 57);
    }

    /** The law, the street and what is told for thought neither go back nor forget; nor does the tape. */
    private static void undoKeepsWhatWasTold() {
        PorchHours x = street(2, 2, 2);
        x.act(0, 0, 0);
        x.feed(1, 2, 3, 4, 5);
        x.end(0);
        due.is("41: look(13) behind feed, end", x.look(13), 1);
        due.is("41: THE LAW", Due.tell(x, 0, "spins 5;"), 1);
        due.is("41: STREET", Due.tell(x, 3, "porch 0 by 1 4;"), 1);
        due.is("41: a fault of CALLS", Due.tell(x, 1, "person 9;"), NONE);
        due.is("41: a fault of EVENINGS", Due.tell(x, 2, "rain"), NONE);
        x.text(7);
        x.wishes(0, 0, 43210);
        x.chair(3, 1);
        x.cat(0, 1, 102);
        x.family(3);
        x.board(3);
        x.talk(1);
        x.half(0, 3);
        x.swing(3);
        x.quarrel(0, 1);
        x.chair(NONE, 0);
        x.matched(0, 0, 0);
        x.goes(3, 0);
        x.image(true);
        x.set(0, 0, 100);
        x.porch(9, 9);
        x.person(99, 0);
        x.minutes(0);
        x.act(0, 0, 1);
        due.is("41: look(13)", x.look(13), 1);
        due.is("41: undo()", x.undo(), true);
        due.is("41: of(0, 2)", x.of(0, 2), NONE);
        due.is("41: THE LAW stays", x.porchOf(0, 5), 5);
        due.is("41: STREET stays", x.porchOf(0, 11), 4);
        due.is("41: what was told for thought stays", x.level(0), 0);
        due.is("41: board(3)", x.board(3), 2);
        due.is("41: family(3)", x.family(3), 2);
    }

    private static void undoIsForgotten() {
        for (int how = 0; how < 8; how++) {
            PorchHours x = street(1, 1, 1);
            x.image(true);
            x.act(2, 0, 0);
            if (how == 0) x.state(0);
            if (how == 1) x.porch(1, 1);
            if (how == 2) x.person(1, 1);
            if (how == 3) x.set(0, 0, 0);
            if (how == 4) x.set(2, 0, 0);
            if (how == 5) x.text(1);
            if (how == 6) x.text(2);
            if (how == 7) x.image(false);
            due.is("41: look(13) behind " + how, x.look(13), 0);
            due.is("41: undo() behind " + how, x.undo(), false);
            due.is("41: look(4) behind " + how, x.look(4), how == 7 ? 0 : 1);
        }
    }

    private static void image() {
        PorchHours x = street(1, 2, 2);
        due.is("42: there is none", x.image(false), false);
        x.set(1, 0, 0);
        x.state(11);
        Due.tell(x, 0, "speaks 1000;");
        x.act(0, 0, 0);
        x.act(0, 1, 0);
        x.act(3, 0, 2);
        x.minutes(1);
        int drawn = x.look(8);
        due.is("42: taken", x.image(true), true);
        due.is("42: what can be undone stays", x.look(13), 4);
        x.minutes(20);
        x.act(2, 0, 0);
        x.porch(5, 5);
        x.person(5, 5);
        x.set(2, 0, 7);
        due.is("42: accepted", x.look(6), 2);
        for (int times = 0; times < 2; times++) {
            due.is("42: gone back to", x.image(false), true);
            int[] want = {1, 2, 1, 0, 0, 3, 0, 4, drawn, 1, 0, 0, 0, 0};
            for (int what = 0; what < 14; what++) due.is("42: look(" + what + ")", x.look(what), want[what]);
            int[] of = {0, 0, 0, 1, 1, 1, NONE, 1000};
            for (int what = 0; what < 8; what++) due.is("42: of(0, " + what + ")", x.of(0, what), of[what]);
            due.is("42: porchOf(0, 1)", x.porchOf(0, 1), 1);
            due.is("42: porchOf(0, 3)", x.porchOf(0, 3), 0);
            bookLine("42", x, 1, 0, 0, 0, 1, 0);
            bookLine("42", x, 3, 0, 0, 1, 1, 1);
            due.is("42: no chair is free", x.act(0, 1, 0), false);
            x.minutes(1);
            due.is("42: goes on from there", x.of(1, 6), 0);
            x.act(1, 0, 0);
            x.act(0, 0, 0);
        }
        x.image(true);
        x.minutes(3);
        x.image(false);
        due.is("42: taken anew", x.look(2), 2);
    }

    private static void imageOfAllThatWasTold() {
        PorchHours x = street(3, 2, 2);
        Due.tell(x, 0, "spins 3 + 4 when minute < 70; spins 1;");
        Due.tell(x, 1, "person 0 at 0 on 1 for 7; person 1 at 0 on 2 for 8;");
        Due.tell(x, 2, "in 0 oil 1 9;");
        Due.tell(x, 3, "porch 0 by 1 4; porch 1 by 2 4;");
        x.wishes(0, 0, 10234);
        x.chair(4, 3);
        x.cat(0, 1, 305);
        x.family(9);
        x.board(5);
        x.board(2);
        x.board(5);
        x.talk(1);
        x.half(0, 1);
        x.half(1, 1);
        x.half(2, 1);
        x.half(2, 1);
        x.swing(5);
        x.swing(9);
        x.quarrel(0, 1);
        Due.tell(x, 0, "spins 1 / 0;");
        x.image(true);
        Due.write(x, "abc");
        x.image(false);
        due.is("42: not the TAPE", x.end(3), true);
        due.is("42: not fault()", x.fault(0), 2);
        due.is("42: not its place", x.fault(1), 10);
        x.end(0);
        Due.tell(x, 0, "spins 2; spins 3; spins 4;");
        x.text(1);
        x.text(2);
        x.text(3);
        x.wishes(0, 0, 1234);
        x.chair(7, 5);
        x.cat(NONE, 0, 0);
        x.family(NONE);
        x.family(1);
        x.board(NONE);
        x.talk(1);
        x.half(0, NONE);
        x.half(1, 3);
        x.half(2, NONE);
        x.swing(NONE);
        x.quarrel(NONE, 0);
        due.is("42: gone back to", x.image(false), true);
        int[] lines = {2, 2, 1, 2};
        for (int i = 0; i < 4; i++) due.is("42: look(" + (9 + i) + ")", x.look(9 + i), lines[i]);
        due.is("42: THE LAW", x.porchOf(0, 5), 7);
        due.is("42: STREET", x.porchOf(2, 11), 4);
        due.is("42: MATCHED", x.matched(0, 0, 0), 1);
        due.is("42: ROCKS", x.rocks(0), 3);
        due.is("42: CAT", x.reply(0, 0, 1), 5);
        due.is("42: STORM", x.storm(8, NONE), NONE);
        due.is("42: LEVEL", x.level(1), 3);
        due.is("42: TALK", x.talks(0), 1);
        due.is("42: HALF", x.halves(1), 2);
        due.is("42: SWING", x.swings(0), 4);
        due.is("42: SEATED", x.seated(2, 0), 0);
        x.minutes(1);
        due.is("42: CALLS", x.look(5), 3);
        due.is("42: EVENINGS", x.porchOf(1, 1), 8);
    }
}
