/** Promises 1 to 6, 12 to 14 and 43: porches and persons, what is told of them by hand and looked at. */
public final class HousesTest {
    private static final int NONE = PorchHours.NONE;
    private static final int LEAST = Integer.MIN_VALUE;
    private static final int MOST = Integer.MAX_VALUE;
    private static final Due due = new Due("HousesTest");

    public static void main(String[] args) {
        newObject();
        state();
        porch();
        person();
        set();
        act();
        actWithoutChairs();
        porchOf();
        feet();
        of();
        hears();
        look();
        due.close();
    }

    /** A street of two porches and three persons. */
    private static PorchHours street() {
        PorchHours x = new PorchHours();
        x.porch(2, 3);
        x.porch(1, 0);
        x.person(5, 2);
        x.person(0, 9);
        x.person(9, 0);
        return x;
    }

    private static void newObject() {
        PorchHours x = new PorchHours();
        for (int what = 0; what <= 13; what++) due.is("1: look(" + what + ")", x.look(what), 0);
        due.is("1: NONE", NONE, -1);
        due.is("1: porchOf(0, 0)", x.porchOf(0, 0), -2);
        due.is("1: of(0, 0)", x.of(0, 0), -2);
        due.is("1: book(0, 0)", x.book(0, 0), NONE);
        due.is("1: undo()", x.undo(), false);
        due.is("1: image(false)", x.image(false), false);
        due.is("1: fault(0)", x.fault(0), 0);
        due.is("1: fault(1)", x.fault(1), NONE);
        due.is("1: end(0)", x.end(0), true);
        due.is("1: end(1)", x.end(1), false);
        due.is("1: last(0, 2)", x.last(0, 2), NONE);
        due.is("1: soonest(0)", x.soonest(0), NONE);
        due.is("1: minutes(1)", x.minutes(1), 0);
        PorchHours y = new PorchHours();
        due.is("1: look(2) of another one", y.look(2), 0);
    }

    private static void state() {
        PorchHours x = street();
        due.is("2: state(5)", x.state(5), 0);
        due.is("2: look(8)", x.look(8), 5);
        due.is("2: state(MIN)", x.state(LEAST), 5);
        due.is("2: state(-7)", x.state(-7), LEAST);
        due.is("2: look(8)", x.look(8), -7);
        x.act(2, 0, 0);
        due.is("2: look(13)", x.look(13), 1);
        x.state(-7);
        due.is("2: look(13) behind state", x.look(13), 0);
        due.is("2: undo() behind state", x.undo(), false);
    }

    private static void porch() {
        PorchHours x = new PorchHours();
        int[][] wrong = {{0, 5}, {7, 5}, {-1, 5}, {1, -1}, {1, 100}, {LEAST, 0}, {MOST, 0}, {1, LEAST}, {1, MOST}};
        x.minutes(1);
        for (int[] w : wrong) due.is("3: porch(" + w[0] + ", " + w[1] + ")", x.porch(w[0], w[1]), NONE);
        due.is("3: look(0)", x.look(0), 0);
        due.is("3: look(13) behind what can't be", x.look(13), 1);
        due.is("3: porch(1, 0)", x.porch(1, 0), 0);
        due.is("3: look(13) behind a porch", x.look(13), 0);
        due.is("3: porch(6, 99)", x.porch(6, 99), 1);
        due.is("3: porchOf(1, 0)", x.porchOf(1, 0), 6);
        due.is("3: porchOf(1, 1)", x.porchOf(1, 1), 99);
        due.is("3: porchOf(1, 2)", x.porchOf(1, 2), 0);
        due.is("3: porchOf(1, 3)", x.porchOf(1, 3), NONE);
        for (int i = 2; i < 12; i++) due.is("3: porch no " + i, x.porch(i / 2, i), i);
        due.is("3: look(0)", x.look(0), 12);
        x.act(2, 0, 0);
        due.is("3: the 13th", x.porch(1, 1), NONE);
        due.is("3: look(0)", x.look(0), 12);
        due.is("3: look(13)", x.look(13), 1);
        due.is("3: porchOf(11, 0)", x.porchOf(11, 0), 5);
        due.is("3: porchOf(11, 1)", x.porchOf(11, 1), 11);
    }

    private static void person() {
        PorchHours x = new PorchHours();
        int[][] wrong = {{-1, 5}, {10, 5}, {5, -1}, {5, 10}, {LEAST, 0}, {MOST, 0}, {1, LEAST}, {1, MOST}};
        x.minutes(1);
        for (int[] w : wrong) due.is("4: person(" + w[0] + ", " + w[1] + ")", x.person(w[0], w[1]), NONE);
        due.is("4: look(1)", x.look(1), 0);
        due.is("4: look(13) behind what can't be", x.look(13), 1);
        due.is("4: person(0, 9)", x.person(0, 9), 0);
        due.is("4: look(13) behind a person", x.look(13), 0);
        due.is("4: person(9, 0)", x.person(9, 0), 1);
        for (int i = 2; i < 20; i++) due.is("4: person no " + i, x.person(i / 2, 9 - i / 2), i);
        x.minutes(1);
        due.is("4: the 21st", x.person(1, 1), NONE);
        due.is("4: look(13) behind the 21st", x.look(13), 1);
        due.is("4: look(1)", x.look(1), 20);
        int[] fresh = {9, 0, NONE, 0, 0, 0, NONE, NONE};
        for (int what = 0; what < 8; what++) due.is("4: of(1, " + what + ")", x.of(1, what), fresh[what]);
        due.is("4: of(19, 0)", x.of(19, 0), 9);
        due.is("4: of(19, 1)", x.of(19, 1), 0);
        x.porch(1, 1);
        due.is("4: the 20th sits", x.act(0, 19, 0), true);
        due.is("4: look(5)", x.look(5), 1 << 19);
    }

    private static void set() {
        PorchHours x = street();
        x.act(2, 0, 0);
        int[][] wrong = {{0, 0, -1}, {0, 0, 100}, {0, 2, 5}, {0, -1, 5}, {1, 0, 3}, {1, 0, -2}, {1, 2, 0}, {1, -1, NONE},
            {2, 0, -1}, {2, 0, 10}, {2, 3, 5}, {2, -1, 5}, {3, 0, -1}, {3, 0, 10}, {3, 3, 5}, {3, -1, 5},
            {4, 0, 0}, {-1, 0, 0}, {LEAST, 0, 0}, {MOST, 0, 0}, {0, MOST, 0}, {2, LEAST, 0}, {0, 0, MOST}, {3, 0, LEAST}};
        for (int[] w : wrong) due.is("5: set(" + w[0] + ", " + w[1] + ", " + w[2] + ")", x.set(w[0], w[1], w[2]), false);
        due.is("5: look(13) behind what can't be", x.look(13), 1);
        int[] before = {2, 3, 0, NONE};
        for (int what = 0; what < 4; what++) due.is("5: porchOf(0, " + what + ")", x.porchOf(0, what), before[what]);
        int[][] right = {{0, 0, 99}, {0, 1, 0}, {0, 1, 7}, {1, 0, 2}, {1, 1, 0}, {1, 1, NONE}, {2, 0, 9}, {2, 1, 0}, {2, 2, 4},
            {3, 0, 0}, {3, 1, 3}, {3, 2, 9}};
        for (int[] r : right) {
            x.act(2, 1, 0);
            due.is("5: set(" + r[0] + ", " + r[1] + ", " + r[2] + ")", x.set(r[0], r[1], r[2]), true);
            due.is("5: look(13) behind set", x.look(13), 0);
            int got = r[0] < 2 ? x.porchOf(r[1], 2 + r[0]) : x.of(r[1], r[0] - 2);
            due.is("5: what was set by " + r[0] + ", " + r[1], got, r[2]);
        }
        due.is("5: porchOf(0, 2) stays", x.porchOf(0, 2), 99);
        due.is("5: of(0, 0) stays", x.of(0, 0), 9);
        due.is("5: of(0, 1) stays", x.of(0, 1), 0);
        due.is("5: porchOf(0, 0) stays", x.porchOf(0, 0), 2);
        due.is("5: porchOf(0, 1) stays", x.porchOf(0, 1), 3);
    }

    private static void act() {
        PorchHours x = street();
        x.set(0, 0, 42);
        int[][] wrong = {{0, -1, 0}, {0, 3, 0}, {0, 0, -1}, {0, 0, 2}, {1, 0, 0}, {1, -1, 0}, {1, 3, 0}, {2, -1, 0}, {2, 2, 0},
            {3, -1, 5}, {3, 2, 5}, {3, 0, -1}, {3, 0, 100}, {4, 0, 0}, {-1, 0, 0}, {LEAST, 0, 0}, {MOST, 0, 0},
            {0, LEAST, MOST}, {1, MOST, 0}, {2, LEAST, 0}, {3, 0, MOST}};
        for (int[] w : wrong) due.is("6: act(" + w[0] + ", " + w[1] + ", " + w[2] + ")", x.act(w[0], w[1], w[2]), false);
        due.is("6: look(13)", x.look(13), 0);
        due.is("6: look(7)", x.look(7), 0);
        due.is("6: sits", x.act(0, 2, 0), true);
        due.is("6: of(2, 2)", x.of(2, 2), 0);
        due.is("6: of(2, 3)", x.of(2, 3), 0);
        due.is("6: sits already", x.act(0, 2, 0), false);
        due.is("6: sits already elsewhere", x.act(0, 2, 1), false);
        due.is("6: sweeps", x.act(2, 0, LEAST), true);
        due.is("6: porchOf(0, 2)", x.porchOf(0, 2), 0);
        due.is("6: look(4)", x.look(4), 1);
        due.is("6: sweeps what is swept", x.act(2, 0, MOST), true);
        due.is("6: look(4)", x.look(4), 2);
        due.is("6: fills", x.act(3, 1, 99), true);
        due.is("6: porchOf(1, 1)", x.porchOf(1, 1), 99);
        due.is("6: porchOf(0, 1)", x.porchOf(0, 1), 3);
        due.is("6: empties", x.act(3, 1, 0), true);
        due.is("6: porchOf(1, 1)", x.porchOf(1, 1), 0);
        due.is("6: rises", x.act(1, 2, LEAST), true);
        due.is("6: of(2, 2)", x.of(2, 2), NONE);
        due.is("6: rises again", x.act(1, 2, 0), false);
        due.is("6: look(13)", x.look(13), 6);
        int[][] book = {{0, 0, 0, 2, 0}, {0, 0, 4, 0, 42}, {0, 0, 4, 0, 0}};
        due.is("6: look(7)", x.look(7), book.length);
        for (int i = 0; i < book.length; i++) {
            for (int what = 0; what < 5; what++) due.is("6: book(" + i + ", " + what + ")", x.book(i, what), book[i][what]);
        }
    }

    private static void actWithoutChairs() {
        PorchHours x = street();
        due.is("6: sits on 1", x.act(0, 0, 1), true);
        due.is("6: no chair on 1", x.act(0, 1, 1), false);
        due.is("6: of(1, 2)", x.of(1, 2), NONE);
        due.is("6: sits on 0", x.act(0, 1, 0), true);
        due.is("6: sits on 0, too", x.act(0, 2, 0), true);
        x.person(1, 1);
        due.is("6: no chair on 0", x.act(0, 3, 0), false);
        x.act(1, 1, 0);
        due.is("6: the chair is free", x.act(0, 3, 0), true);
        due.is("6: porchOf(0, 4)", x.porchOf(0, 4), 12);
        due.is("6: porchOf(1, 4)", x.porchOf(1, 4), 1);
    }

    private static void porchOf() {
        PorchHours x = street();
        x.set(0, 1, 17);
        x.set(1, 1, 2);
        x.act(0, 1, 0);
        x.act(0, 0, 0);
        x.act(0, 2, 1);
        int[][] want = {{2, 3, 0, NONE, 3, 1}, {1, 0, 17, 2, 4, 1}};
        for (int porch = 0; porch < 2; porch++) {
            for (int what = 0; what < 6; what++) {
                due.is("12: porchOf(" + porch + ", " + what + ")", x.porchOf(porch, what), want[porch][what]);
            }
        }
        int[] others = {-1, -2, 6, 7, 8, 9, 12, 13, 22, LEAST, MOST, LEAST + 9, LEAST + 10, LEAST + 11};
        for (int what : others) due.is("12: porchOf(0, " + what + ")", x.porchOf(0, what), -2);
        int[] none = {-1, 2, 11, 12, LEAST, MOST};
        for (int porch : none) {
            due.is("12: porchOf(" + porch + ", 0)", x.porchOf(porch, 0), -2);
            due.is("12: porchOf(" + porch + ", 10)", x.porchOf(porch, 10), -2);
        }
        due.is("12: two lines", Due.tell(x, 0, "spins 50 when cobweb = 17; spins lamp - 5 + sitting;"), 2);
        due.is("12: spins of 1, held", x.porchOf(1, 5), 9);
        due.is("12: spins of 0", x.porchOf(0, 5), 0);
        x.act(3, 0, 7);
        due.is("12: spins of 0 by its lamp and sitters", x.porchOf(0, 5), 4);
        Due.tell(x, 0, "spins tongue + ears + stayed + said + heard + 2;");
        due.is("12: spins without a person", x.porchOf(0, 5), 2);
        Due.tell(x, 0, "spins 0 - 1;");
        due.is("12: spins not below 0", x.porchOf(0, 5), 0);
    }

    private static void feet() {
        PorchHours x = street();
        x.porch(1, 1);
        due.is("12: no street", x.porchOf(0, 11), NONE);
        due.is("12: STREET", Due.tell(x, 3, "porch 0 by 1 30; porch 1 by 2 7; porch 1 by 0 20; porch 0 by 1 25;"), 4);
        due.is("12: itself", x.porchOf(0, 10), NONE);
        due.is("12: the shortest of several", x.porchOf(0, 11), 20);
        due.is("12: either way", x.porchOf(1, 10), 20);
        due.is("12: no line between", x.porchOf(0, 12), NONE);
        due.is("12: 1 to 2", x.porchOf(1, 12), 7);
        due.is("12: 2 to 1", x.porchOf(2, 11), 7);
        due.is("12: no porch 3", x.porchOf(0, 13), -2);
    }

    private static void of() {
        PorchHours x = street();
        x.act(0, 0, 0);
        x.act(0, 2, 1);
        x.state(0);
        Due.tell(x, 0, "speaks 1000 when tongue = 9; speaks 0;");
        x.minutes(2);
        int[][] want = {{5, 2, 0, 2, 0, 0, NONE, 0}, {0, 9, NONE, 0, 0, 0, NONE, NONE}, {9, 0, 1, 2, 2, 0, NONE, 1000}};
        for (int person = 0; person < 3; person++) {
            for (int what = 0; what < 8; what++) {
                due.is("13: of(" + person + ", " + what + ")", x.of(person, what), want[person][what]);
            }
        }
        Due.tell(x, 0, "");
        due.is("13: speaks without a law", x.of(0, 7), 300);
        due.is("13: speaks of 9 without a law", x.of(2, 7), 540);
        Due.tell(x, 0, "speaks 1001; ");
        due.is("13: speaks held", x.of(0, 7), 1000);
        Due.tell(x, 0, "speaks 1 - 2;");
        due.is("13: speaks not below 0", x.of(0, 7), 0);
        x.act(1, 0, 0);
        due.is("13: STAYED of who does not sit", x.of(0, 3), 0);
        due.is("13: speaks of who does not sit", x.of(0, 7), NONE);
        int[] others = {8, -1, 10, LEAST, MOST};
        for (int what : others) due.is("13: of(0, " + what + ")", x.of(0, what), -2);
        int[] none = {-1, 3, 19, 20, LEAST, MOST};
        for (int person : none) due.is("13: of(" + person + ", 0)", x.of(person, 0), -2);
    }

    private static void hears() {
        PorchHours x = street();
        due.is("14: hears(0, 0)", x.hears(0, 0), 200);
        due.is("14: hears(1, 1)", x.hears(1, 1), 900);
        due.is("14: hears(2, 0)", x.hears(2, 0), 0);
        int[][] none = {{3, 0}, {-1, 0}, {0, 2}, {0, -1}, {20, 0}, {0, 12}, {LEAST, 0}, {0, MOST}};
        for (int[] n : none) due.is("14: hears(" + n[0] + ", " + n[1] + ")", x.hears(n[0], n[1]), NONE);
        x.set(0, 1, 30);
        x.act(0, 0, 0);
        x.act(0, 1, 0);
        Due.tell(x, 0, "hears 100 * sitting + 10 * lamp + cobweb + stayed;");
        due.is("14: of the porch where it is spoken", x.hears(0, 1), 30);
        due.is("14: of the other one", x.hears(0, 0), 230);
        due.is("14: of who does not sit", x.hears(2, 0), 230);
        x.minutes(1);
        due.is("14: stayed is the person's", x.hears(0, 1), 32);
        due.is("14: of who does not sit", x.hears(2, 1), 31);
        Due.tell(x, 0, "hears 999 * 2;");
        due.is("14: held", x.hears(0, 0), 1000);
        Due.tell(x, 0, "hears 0 - ears;");
        due.is("14: not below 0", x.hears(1, 0), 0);
    }

    private static void look() {
        PorchHours x = street();
        x.act(0, 0, 0);
        x.act(0, 2, 0);
        x.set(1, 0, 0);
        x.state(77);
        Due.tell(x, 0, "speaks 0; hears 1; spins 2; spins 3; spins 4;");
        Due.tell(x, 1, "person 0 at 50 on 0 for 1; person 1 at 51 on 0 for 1; person 1 at 52 on 0 for 1;");
        Due.tell(x, 2, "in 3 rain 3; in 4 rain 4;");
        Due.tell(x, 3, "porch 0 by 1 1;");
        x.minutes(3);
        x.act(2, 1, 0);
        int[] want = {2, 3, 3, 0, 1, 5, 4, 4, 77, 5, 3, 2, 1, 4};
        for (int what = 0; what < 14; what++) due.is("43: look(" + what + ")", x.look(what), want[what]);
        int[] others = {-1, 14, 100, LEAST, MOST};
        for (int what : others) due.is("43: look(" + what + ")", x.look(what), NONE);
        x.minutes(60);
        due.is("43: look(3)", x.look(3), 1);
        due.is("43: look(2)", x.look(2), 3);
        due.is("43: look(5)", x.look(5), 0);
        due.is("43: look(13)", x.look(13), 6);
    }
}
