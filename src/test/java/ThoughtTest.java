/** Promises 18 to 40: what is told for thought alone, by hand reckoned. */
public final class ThoughtTest {
    private static final int NONE = PorchHours.NONE;
    private static final int LEAST = Integer.MIN_VALUE;
    private static final int MOST = Integer.MAX_VALUE;
    private static final Due due = new Due("ThoughtTest");

    public static void main(String[] args) {
        wishes();
        matched();
        longWooing();
        settled();
        chair();
        rocks();
        cat();
        reply();
        family();
        storm();
        board();
        level();
        talk();
        talks();
        half();
        halves();
        swing();
        swings();
        quarrel();
        seated();
        last();
        steps();
        lamps();
        hooks();
        game();
        due.close();
    }

    private static void wishes() {
        PorchHours x = new PorchHours();
        int[][] wrong = {{2, 0, 1234}, {-1, 0, 1234}, {0, 5, 1234}, {0, -1, 1234}, {0, 0, 1233}, {0, 0, 43211}, {0, 0, 53210},
            {0, 0, 12345}, {0, 0, 12340 + 100000}, {0, 0, -1234}, {0, 0, 0}, {0, 0, 234}, {0, 0, 56789}, {LEAST, 0, 1234},
            {0, MOST, 1234}, {0, 0, LEAST}, {0, 0, MOST}, {1, 4, 101234}, {0, 0, 98760},
            {0, 0, 321234}, {0, 0, 330234}, {0, 0, 1291234}};
        for (int[] w : wrong) due.is("18: wishes(" + w[0] + ", " + w[1] + ", " + w[2] + ")", x.wishes(w[0], w[1], w[2]), false);
        for (int i = 0; i < 5; i++) due.is("19: as at first", x.matched(0, i, 0), i);
        int[] right = {1234, 43210, 10234, 12340, 20413};
        for (int side = 0; side < 2; side++) {
            for (int i = 0; i < 5; i++) due.is("18: wishes", x.wishes(side, i, right[i]), true);
        }
    }

    /** Each of side 0 would have the next one, each of side 1 is content as the others would not. */
    private static void matched() {
        PorchHours x = new PorchHours();
        int[][] wrong = {{2, 0, 0}, {-2, 0, 0}, {0, -1, 0}, {0, 5, 0}, {0, 0, -1}, {0, 0, 2}, {1, 5, 1}, {LEAST, 0, 0},
            {MOST, 0, 0}, {0, MOST, 0}, {0, 0, LEAST}};
        for (int[] w : wrong) due.is("19: matched(" + w[0] + ", " + w[1] + ", " + w[2] + ")", x.matched(w[0], w[1], w[2]), NONE);
        // side 0: i would have i + 1 most; side 1: j would have j most: who asks gets it
        int[] ofAskers = {12340, 23401, 34012, 40123, 1234};
        int[] ofOthers = {1234, 12340, 23401, 34012, 40123};
        for (int i = 0; i < 5; i++) {
            x.wishes(0, i, ofAskers[i]);
            x.wishes(1, i, ofOthers[i]);
        }
        for (int i = 0; i < 5; i++) {
            due.is("19: side 0 asks, of side 0", x.matched(0, i, 0), (i + 1) % 5);
            due.is("19: side 0 asks, of side 1", x.matched(1, i, 0), (i + 4) % 5);
            due.is("19: side 1 asks, of side 0", x.matched(0, i, 1), i);
            due.is("19: side 1 asks, of side 1", x.matched(1, i, 1), i);
        }
        due.is("19: SETTLED by turning", x.matched(NONE, 0, 0), 5);
        // all of side 0 would have 0, 1, 2 .. in this order, all of side 1 would have 4, 3, 2 ..
        x = new PorchHours();
        for (int i = 0; i < 5; i++) x.wishes(1, i, 43210);
        for (int i = 0; i < 5; i++) {
            due.is("19: the dearest of all gets the dearest", x.matched(0, i, 0), 4 - i);
            due.is("19: whoever asks", x.matched(1, i, 1), 4 - i);
        }
        due.is("19: one way alone", x.matched(NONE, 0, 0), 1);
    }

    /** The last one who asks sets off seventeen askings, one giving way to the other. */
    private static void longWooing() {
        PorchHours x = new PorchHours();
        int[] one = {42310, 31420, 14230, 21340, 42130};
        int[] other = {4321, 4132, 10324, 23401, 31240};
        for (int i = 0; i < 5; i++) due.is("18: wishes", x.wishes(0, i, one[i]) && x.wishes(1, i, other[i]), true);
        int[] held = {4, 0, 1, 2, 3};
        for (int i = 0; i < 5; i++) {
            due.is("19: of side 1", x.matched(1, i, 0), held[i]);
            due.is("19: of side 0", x.matched(0, held[i], 0), i);
        }
    }

    private static void settled() {
        PorchHours x = new PorchHours();
        due.is("19: at first", x.matched(NONE, 0, 0), 1);
        // two who would each have the other's mate, twice over: two times two ways
        x.wishes(0, 0, 1234);
        x.wishes(0, 1, 10234);
        x.wishes(1, 0, 10234);
        x.wishes(1, 1, 1234);
        x.wishes(0, 2, 23401);
        x.wishes(0, 3, 32401);
        x.wishes(1, 2, 32401);
        x.wishes(1, 3, 23401);
        x.wishes(0, 4, 43210);
        x.wishes(1, 4, 43210);
        due.is("19: SETTLED", x.matched(NONE, 0, 0), 4);
        int[] asking = {0, 1, 2, 3, 4};
        int[] asked = {1, 0, 3, 2, 4};
        for (int i = 0; i < 5; i++) {
            due.is("19: side 0 asks", x.matched(0, i, 0), asking[i]);
            due.is("19: side 1 asks", x.matched(0, i, 1), asked[i]);
            due.is("19: side 0 asks, of side 1", x.matched(1, i, 0), asking[i]);
        }
    }

    private static void chair() {
        PorchHours x = new PorchHours();
        int[][] wrong = {{0, 0}, {31, 0}, {-2, 0}, {5, 5}, {5, -1}, {5, 6}, {1, 1}, {30, 30}, {LEAST, 0}, {MOST, 0}, {5, LEAST}, {5, MOST}};
        for (int[] w : wrong) due.is("20: chair(" + w[0] + ", " + w[1] + ")", x.chair(w[0], w[1]), NONE);
        due.is("20: chair(1, 0)", x.chair(1, 0), 1);
        due.is("20: chair(30, 29)", x.chair(30, 29), 2);
        due.is("20: the same again", x.chair(30, 29), 3);
        x.chair(2, 1);
        due.is("20: the fifth", x.chair(3, 2), 5);
        due.is("20: the sixth", x.chair(3, 2), NONE);
        due.is("20: chair(NONE)", x.chair(NONE, 99), 0);
        due.is("20: anew", x.chair(3, 2), 1);
        due.is("21: rocks(0)", x.rocks(0), 2);
    }

    private static void rocks() {
        PorchHours x = new PorchHours();
        due.is("21: none told", x.rocks(0), 0);
        due.is("21: none told", x.rocks(1), 0);
        int[] wrong = {2, -1, LEAST, MOST};
        for (int w : wrong) due.is("21: rocks(" + w + ")", x.rocks(w), NONE);
        x.chair(29, 28);
        due.is("21: rocks(0)", x.rocks(0), 28);
        due.is("21: rocks(1)", x.rocks(1), 1);
        x.chair(30, 28);
        due.is("21: rocks(0)", x.rocks(0), 28);
        due.is("21: rocks(1)", x.rocks(1), 2);
        x.chair(23, 5);
        due.is("21: all at 28", x.rocks(0), 28);
        x.chair(NONE, 0);
        x.chair(4, 1);
        x.chair(6, 3);
        due.is("21: rocks(0)", x.rocks(0), 9);
        x.chair(2, 0);
        due.is("21: never", x.rocks(0), NONE);
        due.is("21: two at most", x.rocks(1), 2);
        // 29 times 30 times 23: first at 29 - 1 of 29, at 1 of 30; 9999 is still looked at, 10000 not
        x.chair(NONE, 0);
        x.chair(29, 9999 % 29);
        x.chair(30, 9999 % 30);
        x.chair(23, 9999 % 23);
        due.is("21: at 9999", x.rocks(0), 9999);
        // 23, 52, 81 and 9, 39, 69, 99 and 17, 40, 63, 86: no two at once
        due.is("21: not within 0 .. 99", x.rocks(1), 1);
        x.chair(NONE, 0);
        x.chair(29, 10000 % 29);
        x.chair(30, 10000 % 30);
        x.chair(23, 10000 % 23);
        due.is("21: at 10000", x.rocks(0), NONE);
        x.chair(NONE, 0);
        for (int period = 26; period <= 30; period++) x.chair(period, period - 1);
        due.is("21: far off", x.rocks(0), NONE);
        // two meet at 99, behind it is not looked
        x.chair(NONE, 0);
        x.chair(30, 9);
        x.chair(20, 19);
        due.is("21: at 99", x.rocks(1), 2);
        due.is("21: rocks(0)", x.rocks(0), 39);
        x.chair(NONE, 0);
        x.chair(25, 24);
        x.chair(28, 15);
        due.is("21: first at 99", x.rocks(0), 99);
        due.is("21: at 99 two", x.rocks(1), 2);
        x.chair(NONE, 0);
        x.chair(25, 0);
        x.chair(28, 16);
        due.is("21: first at 100", x.rocks(0), 100);
        due.is("21: at 100 is too late", x.rocks(1), 1);
    }

    private static void cat() {
        PorchHours x = new PorchHours();
        int[][] wrong = {{-2, 0, 1}, {8, 0, 1}, {0, -1, 1}, {0, 8, 1}, {0, 1, 0}, {0, 1, 505}, {0, 1, 504}, {0, 1, 9999}, {0, 1, -1},
            {0, 1, 10005}, {0, 1, 10099}, {LEAST, 0, 1}, {MOST, 0, 1}, {0, LEAST, 1}, {0, 0, LEAST}, {0, 0, MOST}, {0, 1, -99}};
        for (int[] w : wrong) due.is("22: cat(" + w[0] + ", " + w[1] + ", " + w[2] + ")", x.cat(w[0], w[1], w[2]), NONE);
        due.is("22: cat(0, 7, 1)", x.cat(0, 7, 1), 1);
        due.is("22: cat(7, 0, 9899)", x.cat(7, 0, 9899), 2);
        due.is("22: to where it is", x.cat(3, 3, 506), 3);
        for (int i = 4; i <= 12; i++) due.is("22: way " + i, x.cat(1, 2, 1099), i);
        due.is("22: the 13th", x.cat(1, 2, 1099), NONE);
        due.is("23: reply(0, 0, 7)", x.reply(0, 0, 7), 1);
        due.is("23: reply(0, 0, 0)", x.reply(0, 0, 0), 0);
        due.is("23: reply(7, 98, 0)", x.reply(7, 98, 0), 99);
        due.is("22: cat(NONE)", x.cat(NONE, 77, -5), 0);
        due.is("23: none is then", x.reply(0, 0, 7), NONE);
        due.is("22: anew", x.cat(0, 1, 1), 1);
    }

    private static void reply() {
        PorchHours x = new PorchHours();
        int[][] wrong = {{-1, 0, 0}, {8, 0, 8}, {0, -1, 0}, {0, 100, 0}, {0, 0, -1}, {0, 0, 8}, {LEAST, 0, 0}, {0, LEAST, 0},
            {0, MOST, 0}, {0, 0, MOST}};
        for (int[] w : wrong) due.is("23: reply(" + w[0] + ", " + w[1] + ", " + w[2] + ")", x.reply(w[0], w[1], w[2]), NONE);
        due.is("23: alike", x.reply(7, 99, 7), 99);
        due.is("23: alike", x.reply(0, 0, 0), 0);
        // told backwards, so that one round over the ways does not do
        x.cat(4, 5, 4050);
        x.cat(3, 4, 3040);
        x.cat(2, 3, 2030);
        x.cat(1, 2, 1020);
        x.cat(0, 1, 510);
        due.is("23: there and on at one minute", x.reply(0, 5, 5), 50);
        due.is("23: given too late", x.reply(0, 6, 5), NONE);
        due.is("23: part of the way", x.reply(2, 0, 4), 40);
        due.is("23: not backwards", x.reply(5, 0, 0), NONE);
        x.cat(0, 1, 711);
        due.is("23: there after it goes on", x.reply(0, 6, 2), NONE);
        due.is("23: as far as 1", x.reply(0, 6, 1), 11);
        x.cat(1, 5, 1245);
        due.is("23: it waits", x.reply(0, 6, 5), 45);
        x.cat(0, 5, 4546);
        due.is("23: the earliest", x.reply(0, 5, 5), 45);
        x.cat(0, 5, 844);
        due.is("23: straight", x.reply(0, 5, 5), 44);
        due.is("23: alike, though it can come back", x.reply(5, 3, 5), 3);
    }

    private static void family() {
        PorchHours x = new PorchHours();
        int[] wrong = {0, 10, -2, LEAST, MOST};
        for (int w : wrong) due.is("24: family(" + w + ")", x.family(w), NONE);
        for (int i = 1; i <= 8; i++) due.is("24: family no " + i, x.family(i == 1 ? 9 : 1), i);
        due.is("24: the ninth", x.family(1), NONE);
        due.is("25: all are counted", x.storm(16, NONE), 1);
        due.is("25: all are counted", x.storm(15, NONE), 2);
        due.is("24: family(NONE)", x.family(NONE), 0);
        due.is("25: none", x.storm(1, NONE), 0);
        due.is("24: anew", x.family(9), 1);
    }

    private static void storm() {
        PorchHours x = new PorchHours();
        int[][] wrong = {{0, NONE}, {31, NONE}, {-1, NONE}, {5, 0}, {5, 5}, {5, -2}, {0, 1}, {31, 1}, {LEAST, 1}, {MOST, 1},
            {5, LEAST}, {5, MOST}};
        for (int[] w : wrong) due.is("25: storm(" + w[0] + ", " + w[1] + ")", x.storm(w[0], w[1]), NONE);
        due.is("25: nobody", x.storm(30, NONE), 0);
        due.is("25: nobody", x.storm(30, 4), 1);
        x.family(5);
        due.is("25: one too many", x.storm(4, NONE), NONE);
        due.is("25: one too many", x.storm(4, 4), 0);
        due.is("25: one family", x.storm(5, NONE), 1);
        due.is("25: one family into four", x.storm(5, 4), 4);
        x.family(4);
        x.family(4);
        x.family(3);
        x.family(2);
        x.family(2);
        // 5 4 4 3 2 2 are 20: into tens 4 4 2 and 5 3 2: the one 2 or the other, each told apart
        due.is("25: fewest of ten", x.storm(10, NONE), 2);
        due.is("25: ways of ten into two", x.storm(10, 2), 4);
        due.is("25: fewest of nine", x.storm(9, NONE), 3);
        due.is("25: nine into two", x.storm(9, 2), 0);
        due.is("25: fewest of five: 4, 4, 5, 3 2, 2", x.storm(5, NONE), 5);
        due.is("25: five into four", x.storm(5, 4), 0);
        due.is("25: all under one", x.storm(20, 1), 1);
        due.is("25: not under one", x.storm(19, 1), 0);
        due.is("25: all ways", x.storm(20, 4), 4096);
        due.is("25: all but under one of three", x.storm(19, 3), 729 - 3);
        x.family(9);
        x.family(9);
        due.is("25: 38 under thirty: two", x.storm(30, NONE), 2);
        due.is("25: two parts of at most thirty", x.storm(30, 4), eightIntoFour());
        x.family(NONE);
        for (int i = 0; i < 8; i++) x.family(1);
        due.is("25: eight apart", x.storm(1, NONE), 8);
        due.is("25: eight by twos into four", x.storm(2, 4), 2520);
    }

    /** All ways of 5 4 4 3 2 2 9 9 into four of at most thirty, tried out. */
    private static int eightIntoFour() {
        int[] many = {5, 4, 4, 3, 2, 2, 9, 9};
        int ways = 0;
        for (int way = 0; way < 65536; way++) {
            int[] under = new int[4];
            for (int i = 0; i < 8; i++) under[way >> 2 * i & 3] += many[i];
            if (under[0] <= 30 && under[1] <= 30 && under[2] <= 30 && under[3] <= 30) ways++;
        }
        return ways;
    }

    private static void board() {
        PorchHours x = new PorchHours();
        int[] wrong = {100, -2, LEAST, MOST};
        for (int w : wrong) due.is("26: board(" + w + ")", x.board(w), NONE);
        for (int i = 1; i <= 12; i++) due.is("26: board no " + i, x.board(i == 1 || i == 12 ? 99 : 0), i);
        due.is("26: the 13th", x.board(0), NONE);
        due.is("27: all hold water", x.level(1), 990);
        due.is("26: board(NONE)", x.board(NONE), 0);
        due.is("26: anew", x.board(0), 1);
        due.is("27: one is level", x.level(0), 0);
    }

    private static void boards(PorchHours x, int... heights) {
        x.board(NONE);
        for (int h : heights) x.board(h);
    }

    private static void level() {
        PorchHours x = new PorchHours();
        due.is("27: none told", x.level(0), 0);
        due.is("27: none told", x.level(1), 0);
        int[] wrong = {2, -1, LEAST, MOST};
        for (int w : wrong) due.is("27: level(" + w + ")", x.level(w), NONE);
        boards(x, 1, 5, 0);
        due.is("27: level(0)", x.level(0), 3);
        due.is("27: level(1)", x.level(1), 0);
        boards(x, 9, 0, 0);
        due.is("27: three by one, three by two", x.level(0), 9);
        boards(x, 0, 0, 9);
        due.is("27: and from behind", x.level(0), 9);
        boards(x, 0, 6, 0, 2);
        due.is("27: level(0)", x.level(0), 4);
        due.is("27: level(1)", x.level(1), 2);
        boards(x, 1, 2);
        due.is("27: they can't be", x.level(0), NONE);
        boards(x, 3, 3, 3);
        due.is("27: they are", x.level(0), 0);
        boards(x, 0, 1, 0, 2, 1, 0, 1, 3, 2, 1, 2, 1);
        due.is("27: water in six places", x.level(1), 6);
        boards(x, 5, 1, 3, 1, 4);
        due.is("27: held by the lesser side", x.level(1), 7);
        boards(x, 1, 2, 3);
        due.is("27: upwards holds none", x.level(1), 0);
        boards(x, 3, 2, 1);
        due.is("27: downwards holds none", x.level(1), 0);
        boards(x, 99, 0, 99);
        due.is("27: level(1)", x.level(1), 99);
        due.is("27: level(0)", x.level(0), 66);
    }

    private static void words(PorchHours x, int... words) {
        x.talk(NONE);
        for (int w : words) x.talk(w);
    }

    private static void talk() {
        PorchHours x = new PorchHours();
        int[] wrong = {3, -2, LEAST, MOST};
        for (int w : wrong) due.is("28: talk(" + w + ")", x.talk(w), NONE);
        for (int i = 1; i <= 24; i++) due.is("28: word " + i, x.talk(1), i);
        due.is("28: the 25th", x.talk(1), NONE);
        due.is("29: so deep", x.talks(0), 24);
        due.is("28: talk(NONE)", x.talk(NONE), 0);
        due.is("29: empty", x.talks(0), 0);
        due.is("28: anew", x.talk(0), 1);
    }

    private static void talks() {
        PorchHours x = new PorchHours();
        int[] wrong = {2, 9, 26, -1, LEAST, MOST};
        for (int w : wrong) due.is("29: talks(" + w + ")", x.talks(w), NONE);
        due.is("29: empty", x.talks(0), 0);
        due.is("29: empty", x.talks(1), NONE);
        int[] ways = {1, 1, 2, 5, 14, 42, 132, 429, 1430, 4862, 16796, 58786, 208012, 742900, 2674440, 9694845};
        for (int n = 0; n < 16; n++) due.is("29: ways of " + n, x.talks(10 + n), ways[n]);
        words(x, 1, 0, 1, 2, 2, 2);
        due.is("29: IN", x.talks(0), 2);
        due.is("29: FIRST", x.talks(1), 5);
        words(x, 2);
        due.is("29: IN", x.talks(0), 0);
        due.is("29: FIRST", x.talks(1), 0);
        words(x, 2, 2, 2, 1, 1, 0, 2, 1);
        due.is("29: ends of what was not begun do nothing", x.talks(0), 2);
        due.is("29: the first of several", x.talks(1), 0);
        words(x, 0, 0, 0);
        due.is("29: IN", x.talks(0), 0);
        due.is("29: FIRST", x.talks(1), NONE);
        words(x, 1, 2, 1, 2, 0, 1, 1, 1, 2, 2, 2);
        due.is("29: the deepest, not the last", x.talks(0), 3);
        due.is("29: all was begun", x.talks(1), NONE);
        words(x, 1, 2, 0, 2, 1, 2, 2);
        due.is("29: FIRST", x.talks(1), 3);
        due.is("29: IN", x.talks(0), 1);
    }

    private static void tellHalf(PorchHours x, int which, int... words) {
        x.half(which, NONE);
        for (int w : words) x.half(which, w);
    }

    private static void half() {
        PorchHours x = new PorchHours();
        int[][] wrong = {{3, 0}, {-1, 0}, {0, 10}, {0, -2}, {3, NONE}, {-1, NONE}, {LEAST, 0}, {MOST, 0}, {0, LEAST}, {0, MOST}};
        for (int[] w : wrong) due.is("30: half(" + w[0] + ", " + w[1] + ")", x.half(w[0], w[1]), NONE);
        for (int which = 0; which < 3; which++) {
            int most = which == 2 ? 24 : 12;
            for (int i = 1; i <= most; i++) due.is("30: word " + i + " of " + which, x.half(which, i % 10), i);
            due.is("30: no room", x.half(which, 0), NONE);
        }
        due.is("30: half(1, NONE)", x.half(1, NONE), 0);
        due.is("30: the others stay", x.half(0, 1), NONE);
        due.is("30: the others stay", x.half(2, 1), NONE);
        due.is("30: half(1, 9)", x.half(1, 9), 1);
        due.is("30: half(2, NONE)", x.half(2, NONE), 0);
        due.is("30: half(0, NONE)", x.half(0, NONE), 0);
        due.is("31: one word against none", x.halves(0), 0);
    }

    private static void halves() {
        PorchHours x = new PorchHours();
        int[] wrong = {2, -1, LEAST, MOST};
        for (int w : wrong) due.is("31: halves(" + w + ")", x.halves(w), NONE);
        due.is("31: empty", x.halves(0), 1);
        due.is("31: empty", x.halves(1), 1);
        tellHalf(x, 0, 1, 2);
        due.is("31: nothing heard", x.halves(0), 0);
        due.is("31: nothing heard", x.halves(1), 0);
        tellHalf(x, 2, 1, 2);
        due.is("31: one alone", x.halves(1), 1);
        tellHalf(x, 1, 1, 3);
        tellHalf(x, 2, 1, 1, 2, 3);
        due.is("31: halves(0)", x.halves(0), 1);
        due.is("31: halves(1)", x.halves(1), 2);
        tellHalf(x, 2, 1, 2, 1, 3);
        due.is("31: one way", x.halves(1), 1);
        tellHalf(x, 2, 1, 3, 1, 2);
        due.is("31: one way", x.halves(1), 1);
        tellHalf(x, 2, 2, 1, 1, 3);
        due.is("31: out of order", x.halves(0), 0);
        tellHalf(x, 2, 1, 1, 2);
        due.is("31: too few heard", x.halves(0), 0);
        tellHalf(x, 2, 1, 1, 2, 3, 3);
        due.is("31: too many heard", x.halves(0), 0);
        int[] twelve = new int[12];
        tellHalf(x, 0, twelve);
        tellHalf(x, 1, twelve);
        tellHalf(x, 2, new int[24]);
        due.is("31: halves(1)", x.halves(1), 2704156);
        due.is("31: halves(0)", x.halves(0), 1);
        tellHalf(x, 1);
        tellHalf(x, 2, twelve);
        due.is("31: with a silent one", x.halves(1), 1);
        tellHalf(x, 0);
        tellHalf(x, 1, twelve);
        due.is("31: with a silent one", x.halves(1), 1);
    }

    private static void weights(PorchHours x, int... weights) {
        x.swing(NONE);
        for (int w : weights) x.swing(w);
    }

    private static void swing() {
        PorchHours x = new PorchHours();
        int[] wrong = {0, 61, -2, LEAST, MOST};
        for (int w : wrong) due.is("32: swing(" + w + ")", x.swing(w), NONE);
        for (int i = 1; i <= 8; i++) due.is("32: one more", x.swing(i == 1 ? 60 : 1), i);
        due.is("32: the ninth", x.swing(1), NONE);
        due.is("33: all are weighed", x.swings(0), 59);
        due.is("32: swing(NONE)", x.swing(NONE), 0);
        due.is("33: none", x.swings(0), 0);
        due.is("32: anew", x.swing(60), 1);
    }

    private static void swings() {
        PorchHours x = new PorchHours();
        int[] wrong = {2, -1, LEAST, MOST};
        for (int w : wrong) due.is("33: swings(" + w + ")", x.swings(w), NONE);
        due.is("33: none told", x.swings(0), 0);
        due.is("33: none told", x.swings(1), 0);
        weights(x, 5, 3, 4, 4);
        due.is("33: even", x.swings(0), 0);
        due.is("33: the first and the second", x.swings(1), 3);
        weights(x, 5);
        due.is("33: odd", x.swings(0), NONE);
        due.is("33: odd", x.swings(1), NONE);
        weights(x, 5, 60);
        due.is("33: the other seat is heavier", x.swings(0), 55);
        due.is("33: alone", x.swings(1), 1);
        for (int w : wrong) due.is("33: swings(" + w + ")", x.swings(w), NONE);
        weights(x, 1, 1, 1, 1);
        due.is("33: of several the least", x.swings(1), 3);
        weights(x, 10, 9, 8, 1);
        due.is("33: as many on each", x.swings(0), 6);
        due.is("33: with the lightest", x.swings(1), 9);
        weights(x, 1, 50, 2, 50, 3, 50);
        due.is("33: 1 and 50 and 50, or two of them alone", x.swings(0), 46);
        due.is("33: who", x.swings(1), 11);
        weights(x, 60, 60, 60, 60, 60, 60, 60, 1);
        due.is("33: swings(0)", x.swings(0), 59);
        due.is("33: of several the least", x.swings(1), 15);
    }

    private static void quarrel() {
        PorchHours x = new PorchHours();
        int[][] wrong = {{0, 0}, {7, 7}, {-2, 0}, {8, 0}, {0, -1}, {0, 8}, {LEAST, 0}, {MOST, 0}, {0, LEAST}, {0, MOST}};
        for (int[] w : wrong) due.is("34: quarrel(" + w[0] + ", " + w[1] + ")", x.quarrel(w[0], w[1]), NONE);
        for (int i = 1; i <= 8; i++) due.is("34: couple " + i, x.quarrel(0, 7), i);
        due.is("34: the ninth", x.quarrel(0, 1), NONE);
        due.is("34: quarrel(NONE)", x.quarrel(NONE, 99), 0);
        due.is("35: none is then", x.seated(8, 0), 40320);
        due.is("34: anew", x.quarrel(7, 0), 1);
    }

    private static void seated() {
        PorchHours x = new PorchHours();
        int[][] wrong = {{0, 0}, {9, 0}, {-1, 0}, {3, -1}, {3, 2}, {LEAST, 0}, {MOST, 0}, {3, LEAST}, {3, MOST}};
        for (int[] w : wrong) due.is("35: seated(" + w[0] + ", " + w[1] + ")", x.seated(w[0], w[1]), NONE);
        int row = 1;
        for (int n = 1; n <= 8; n++) {
            due.is("35: round " + n, x.seated(n, 1), row);
            row *= n;
            due.is("35: in a row " + n, x.seated(n, 0), row);
        }
        x.quarrel(0, 1);
        due.is("35: 2 in a row", x.seated(2, 0), 0);
        due.is("35: 2 round", x.seated(2, 1), 0);
        due.is("35: 3 in a row", x.seated(3, 0), 2);
        due.is("35: 3 round", x.seated(3, 1), 0);
        due.is("35: 4 in a row", x.seated(4, 0), 12);
        due.is("35: 4 round: 1 over there", x.seated(4, 1), 2);
        due.is("35: 1", x.seated(1, 0), 1);
        due.is("35: 1 round", x.seated(1, 1), 1);
        due.is("35: 8 in a row", x.seated(8, 0), 40320 - 2 * 5040);
        due.is("35: 8 round", x.seated(8, 1), 5040 - 2 * 720);
        x.quarrel(1, 0);
        due.is("35: told twice", x.seated(4, 0), 12);
        x.quarrel(NONE, 0);
        x.quarrel(3, 2);
        due.is("35: of others not asked", x.seated(3, 0), 6);
        due.is("35: of others not asked", x.seated(3, 1), 2);
        due.is("35: of these", x.seated(4, 0), 12);
        due.is("35: of these round: apart by 0 and 1", x.seated(4, 1), 2);
        x.quarrel(NONE, 0);
        x.quarrel(0, 1);
        x.quarrel(2, 0);
        x.quarrel(3, 0);
        due.is("35: 0 by nobody", x.seated(4, 0), 0);
        due.is("35: 0 by 4 alone", x.seated(5, 0), 12);
        due.is("35: round 0 needs two", x.seated(5, 1), 0);
        due.is("35: round between 4 and 5", x.seated(6, 1), 12);
    }

    private static void last() {
        PorchHours x = new PorchHours();
        for (int i = 0; i < 12; i++) x.porch(1, 1);
        Due.tell(x, 3, "porch 0 by 1 10;porch 1 by 2 10;porch 0 by 2 25;porch 3 by 2 1;porch 4 by 1 11;"
            + "porch 5 by 6 99;porch 7 by 6 99;porch 7 by 8 99;porch 8 by 9 99;porch 9 by 10 99;porch 11 by 10 99;");
        due.is("36: of several the least", x.last(0, 0), 3);
        due.is("36: by the shortest way", x.last(0, 1), 21);
        due.is("36: to how many", x.last(0, 2), 5);
        due.is("36: from 3", x.last(3, 0), 4);
        due.is("36: from 3", x.last(3, 1), 22);
        due.is("36: from 2", x.last(2, 0), 4);
        due.is("36: from 4", x.last(4, 0), 3);
        due.is("36: a long way", x.last(11, 0), 5);
        due.is("36: a long way", x.last(11, 1), 594);
        due.is("36: a long way", x.last(5, 0), 11);
        due.is("36: a long way", x.last(5, 2), 7);
        Due.tell(x, 3, "porch 0 by 1 9; porch 0 by 2 9; porch 0 by 1 99;");
        due.is("36: alike, the least", x.last(0, 0), 1);
        due.is("36: last(3, 0): itself", x.last(3, 0), 3);
        due.is("36: last(3, 1)", x.last(3, 1), 0);
        due.is("36: last(3, 2)", x.last(3, 2), 1);
        int[][] none = {{-1, 0}, {12, 0}, {0, 3}, {0, -1}, {LEAST, 0}, {MOST, 0}, {0, LEAST}, {0, MOST}};
        for (int[] n : none) due.is("36: last(" + n[0] + ", " + n[1] + ")", x.last(n[0], n[1]), NONE);
        PorchHours y = new PorchHours();
        y.porch(1, 1);
        due.is("36: no porch 1", y.last(1, 0), NONE);
        due.is("36: one alone", y.last(0, 2), 1);
    }

    private static void steps() {
        PorchHours x = new PorchHours();
        int[][] wrong = {{-1, 1, 0}, {41, 1, 0}, {5, -1, 0}, {5, 32, 0}, {5, 1, 2}, {5, 1, -1}, {0, 0, 2}, {LEAST, 1, 0}, {MOST, 1, 0},
            {5, LEAST, 0}, {5, MOST, 0}, {5, 1, LEAST}};
        for (int[] w : wrong) due.is("37: steps(" + w[0] + ", " + w[1] + ", " + w[2] + ")", x.steps(w[0], w[1], w[2]), NONE);
        for (int what = 0; what < 2; what++) {
            due.is("37: none up", x.steps(0, 31, what), 1);
            due.is("37: none up without a pace", x.steps(0, 0, what), 1);
            due.is("37: up without a pace", x.steps(1, 0, what), 0);
            due.is("37: one by one", x.steps(40, 1, what), 1);
            due.is("37: two by two", x.steps(39, 2, what), 0);
            due.is("37: two by two", x.steps(40, 2, what), 1);
            due.is("37: a single pace", x.steps(5, 16, what), 1);
            due.is("37: 4 by fives", x.steps(4, 16, what), 0);
        }
        due.is("37: 5 by ones and twos", x.steps(5, 3, 0), 8);
        due.is("37: 40 by ones and twos", x.steps(40, 3, 0), 165580141);
        due.is("37: 5 by ones and fives", x.steps(5, 17, 0), 2);
        due.is("37: 6 by all", x.steps(6, 31, 0), 31);
        due.is("37: 5 by all", x.steps(5, 31, 0), 16);
        // by all: 1, 1, 2, 4, 8, 16, 31 .. each the sum of the five before
        long[] ways = new long[41];
        ways[0] = 1;
        for (int i = 1; i <= 40; i++) {
            for (int p = 1; p <= Math.min(5, i); p++) ways[i] += ways[i - p];
            due.is("37: all of " + i, x.steps(i, 31, 0), ways[i] % 1000000007L);
            long alike = i <= 5 ? 1 : 0;
            for (int p = 1; 2 * p <= i; p++) if (p <= 5) alike += ways[i - 2 * p];
            due.is("37: alike of " + i, x.steps(i, 31, 1), alike % 1000000007L);
        }
        due.is("37: 3 by ones and twos, alike: 1 1 1", x.steps(3, 3, 1), 1);
        due.is("37: 4, alike: 1 1 1 1, 1 2 1, 2 2", x.steps(4, 3, 1), 3);
        due.is("37: 2, alike: 1 1, 2", x.steps(2, 3, 1), 2);
        due.is("37: 8 by threes and twos, alike: 2 2 2 2, 3 2 3", x.steps(8, 6, 1), 2);
    }

    private static void lamps() {
        PorchHours x = new PorchHours();
        int[][] wrong = {{0, 1, 1, 0}, {13, 1, 1, 0}, {1, 0, 1, 0}, {1, 13, 1, 0}, {1, 1, 0, 0}, {1, 1, 13, 0}, {1, 1, 1, -1},
            {1, 1, 1, 13}, {LEAST, 1, 1, 0}, {1, MOST, 1, 0}, {1, 1, LEAST, 0}, {1, 1, 1, MOST}};
        for (int[] w : wrong) due.is("38: lamps(" + w[0] + ", " + w[1] + ", ..)", x.lamps(w[0], w[1], w[2], w[3]), NONE);
        // 1: 503, 530, 233, 251; 7: and then 701; 4: 323, 620, 602, 152, 143
        int[] eight = {0, 4, 2, 1, 6, 1, 3, 5, 0, NONE};
        for (int q = 0; q < 10; q++) due.is("38: lamps(8, 5, 3, " + q + ")", x.lamps(8, 5, 3, q), eight[q]);
        int[] seven = {1, 1, 1, 1};
        for (int q = 0; q < 4; q++) due.is("38: lamps(1, 12, 12, " + q + ")", x.lamps(1, 12, 12, q), q < 2 ? seven[q] - 1 : NONE);
        due.is("38: half of twelve by 7 and 5", x.lamps(12, 7, 5, 6), 10);
        due.is("38: all is in the first", x.lamps(12, 1, 1, 12), 0);
        due.is("38: eleven", x.lamps(12, 1, 1, 11), 1);
        due.is("38: ten", x.lamps(12, 1, 1, 10), 2);
        due.is("38: nine can't be", x.lamps(12, 1, 1, 9), NONE);
        due.is("38: the other can is greater", x.lamps(3, 12, 2, 3), 0);
        due.is("38: one of three by two", x.lamps(3, 12, 2, 1), 1);
        due.is("38: two from the third", x.lamps(3, 12, 2, 2), 1);
        due.is("38: two of four by three alone can't be", x.lamps(4, 3, 12, 2), NONE);
        due.is("38: the third can holds all", x.lamps(5, 3, 12, 2), 1);
        due.is("38: two from the first into the third", x.lamps(5, 4, 3, 2), 1);
    }

    private static void hooks() {
        PorchHours x = new PorchHours();
        int[] wrong = {0, 1, -1, 2, 9, 11, 12, 20, 30, 110, 100, 102, 1022, 2012, 1013, 101, 10, 100000000, 1123, 2147483647, LEAST,
            -10, -1012, 1123456789, 1012345679, 1112345678, 2012345678, 1000};
        for (int row : wrong) {
            for (int what = 0; what < 3; what++) {
                due.is("39: hooks(" + row + ", " + what + ")", x.hooks(row, what), row == 10 ? (what == 0 ? 1 : 0) : row == 101
                    ? (what == 0 ? 2 : 0) : row == 110 ? 1 : NONE);
            }
        }
        int[] whats = {3, -1, LEAST, MOST};
        for (int what : whats) due.is("39: hooks(1012, " + what + ")", x.hooks(1012, what), NONE);
        int[][] want = {{1012, 3, 0, 0}, {1021, 2, 1, 1}, {1102, 2, 1, 2}, {1120, 2, 2, 3}, {1201, 2, 2, 4}, {1210, 1, 3, 5},
            {1012345678, 9, 0, 0}, {1876543210, 1, 36, 362879}, {1012345687, 8, 1, 1}, {11023, 3, 1, 6}, {10213, 3, 1, 2},
            {13012, 3, 3, 18}, {12301, 2, 4, 16}, {1120345, 5, 2, 144}, {1520314, 3, 8, 5 * 120 + 2 * 24 + 2 + 0},
            {1876543201, 2, 35, 362878}, {1123456780, 8, 8, 46233}};
        for (int[] w : want) {
            for (int what = 0; what < 3; what++) due.is("39: hooks(" + w[0] + ", " + what + ")", x.hooks(w[0], what), w[1 + what]);
        }
    }

    private static void game() {
        PorchHours x = new PorchHours();
        int[][] wrong = {{0, 1}, {1, 0}, {201, 1}, {1, 201}, {-1, 1}, {1, -1}, {LEAST, 1}, {1, LEAST}, {MOST, 1}, {1, MOST}};
        for (int[] w : wrong) due.is("40: game(" + w[0] + ", " + w[1] + ")", x.game(w[0], w[1]), NONE);
        // less than the golden ratio loses, but for two alike: so 3 2, 8 5, 144 89, 200 124; the least take to such
        int[][] want = {{1, 1, 1}, {200, 200, 200}, {2, 1, 2}, {200, 1, 200}, {3, 2, NONE}, {5, 3, 3}, {8, 5, NONE}, {13, 8, 8},
            {21, 13, NONE}, {5, 2, 2}, {7, 2, 4}, {8, 3, 6}, {10, 3, 6}, {4, 2, 4}, {6, 2, 6}, {200, 100, 200}, {200, 99, 99},
            {200, 3, 198}, {144, 89, NONE}, {199, 2, 196}, {9, 4, 4}, {11, 4, 8}, {200, 123, 123}, {200, 124, NONE}};
        for (int[] w : want) due.is("40: game(" + w[0] + ", " + w[1] + ")", x.game(w[0], w[1]), w[2]);
        for (int[] w : want) due.is("40: game(" + w[1] + ", " + w[0] + ")", x.game(w[1], w[0]), w[2]);
    }
}
