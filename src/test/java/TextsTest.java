/** Promises 8 to 11: the tape, the four texts, their faults, and what the law tells by them. */
public final class TextsTest {
    private static final int NONE = PorchHours.NONE;
    private static final int LEAST = Integer.MIN_VALUE;
    private static final int MOST = Integer.MAX_VALUE;
    private static final Due due = new Due("TextsTest");

    public static void main(String[] args) {
        feed();
        bytes();
        end();
        noSuchText();
        faultIsOfTheLatest();
        goodTexts();
        tokens();
        lawFaults();
        openFaults();
        callFaults();
        eveningFaults();
        streetFaults();
        seventeenLines();
        faultKeepsTheText();
        numbers();
        nouns();
        conditions();
        firstLineThatHolds();
        due.close();
    }

    /** Three porches, four persons. */
    private static PorchHours street() {
        PorchHours x = new PorchHours();
        for (int i = 0; i < 3; i++) x.porch(3, 0);
        for (int i = 0; i < 4; i++) x.person(i, i);
        return x;
    }

    private static void feed() {
        PorchHours x = street();
        for (int i = 1; i <= 20; i++) due.is("8: feed no " + i, x.feed(i, LEAST, MOST, -1, 0), 20 * i);
        due.is("8: the 21st", x.feed(0, 0, 0, 0, 0), NONE);
        due.is("8: the 22nd", x.feed(0, 0, 0, 0, 0), NONE);
        due.is("9: end(400)", x.end(400), true);
        due.is("9: end(381)", x.end(381), true);
        due.is("8: 401 bytes", x.feed(0, 0, 0, 0, 0), NONE);
        due.is("9: end(382)", x.end(382), false);
        due.is("9: end(380)", x.end(380), true);
        due.is("8: 400 bytes", x.feed(0, 0, 0, 0, 0), 400);
    }

    /** A byte at each place of each number decides at which place the fault is. */
    private static void bytes() {
        for (int at = 0; at < 20; at++) {
            PorchHours x = street();
            char[] text = "spins 1;spins 2;    ".toCharArray();
            text[at] = '#';
            Due.write(x, new String(text));
            due.is("8: text(0) with # at " + at, x.text(0), NONE);
            int start = at < 8 ? 0 : at < 16 ? 8 : at;
            int want = at < 16 && at - start < 5 && at > start ? start : at;
            due.is("8: fault(1) with # at " + at, x.fault(1), want);
        }
        PorchHours x = street();
        x.feed(0x7370696e, 0x7320383b, 0x20202020, 0x20202020, 0x20202020);
        due.is("8: the highest first", x.text(0), 1);
        due.is("8: porchOf(0, 5)", x.porchOf(0, 5), 8);
        x.feed(0x73706920, 0, 0, 0, 0);
        x.end(3);
        x.feed(0x6e732036, 0x3b202020, 0x20202020, 0x20202020, 0x20202020);
        due.is("8: behind what the TAPE has", x.text(0), 1);
        due.is("8: porchOf(0, 5)", x.porchOf(0, 5), 6);
        x.feed(0x73706920, 0xffffff80, 0, 0, 0);
        due.is("8: high bytes", x.text(0), NONE);
        due.is("8: fault(1)", x.fault(1), 0);
        x.feed(0xff202020, 0, 0, 0, 0);
        due.is("8: a high byte", x.text(0), NONE);
        due.is("8: fault(0)", x.fault(0), 1);
        due.is("8: fault(1)", x.fault(1), 0);
    }

    private static void end() {
        PorchHours x = street();
        due.is("9: end(0) of none", x.end(0), true);
        due.is("9: end(1) of none", x.end(1), false);
        Due.write(x, "spins 7;spins 8;");
        int[] wrong = {17, 20, -1, 400, LEAST, MOST};
        for (int n : wrong) due.is("9: end(" + n + ")", x.end(n), false);
        due.is("9: end(16)", x.end(16), true);
        due.is("9: end(9)", x.end(9), true);
        due.is("9: end(10)", x.end(10), false);
        due.is("9: end(8)", x.end(8), true);
        due.is("9: one line", x.text(0), 1);
        due.is("9: the TAPE is empty", x.end(1), false);
        due.is("9: end(0)", x.end(0), true);
    }

    private static void noSuchText() {
        int[] wrong = {4, -1, 10, LEAST, MOST};
        for (int k : wrong) {
            PorchHours x = street();
            Due.tell(x, 0, "spins 5");
            due.is("10: fault(0)", x.fault(0), 1);
            Due.write(x, "spins 5;");
            due.is("10: text(" + k + ")", x.text(k), NONE);
            due.is("11: fault(0) behind it", x.fault(0), 0);
            due.is("11: fault(1) behind it", x.fault(1), NONE);
            due.is("10: the TAPE is empty behind it", x.end(1), false);
            for (int i = 9; i < 13; i++) due.is("10: look(" + i + ")", x.look(i), 0);
        }
    }

    private static void faultIsOfTheLatest() {
        PorchHours x = street();
        int[] wrong = {2, -1, LEAST, MOST};
        Due.tell(x, 3, "porch 0 by 0 1;");
        due.is("11: fault(0)", x.fault(0), 2);
        due.is("11: fault(1)", x.fault(1), 11);
        for (int what : wrong) due.is("11: fault(" + what + ")", x.fault(what), NONE);
        Due.tell(x, 0, "spins 4;");
        due.is("11: fault(0)", x.fault(0), 0);
        due.is("11: fault(1)", x.fault(1), NONE);
    }

    private static void good(PorchHours x, int k, String text, int lines) {
        due.is("10: text(" + k + ") of " + text, Due.tell(x, k, text), lines);
        due.is("11: fault(0) of " + text, x.fault(0), 0);
        due.is("11: fault(1) of " + text, x.fault(1), NONE);
        due.is("10: look of " + text, x.look(9 + k), lines);
        due.is("10: the TAPE behind " + text, x.end(1), false);
    }

    private static void fault(PorchHours x, int k, String text, int kind, int place) {
        due.is("10: text(" + k + ") of " + text, Due.tell(x, k, text), NONE);
        due.is("11: fault(0) of " + text, x.fault(0), kind);
        due.is("11: fault(1) of " + text, x.fault(1), place);
        due.is("10: the TAPE behind " + text, x.end(1), false);
    }

    private static void goodTexts() {
        PorchHours x = street();
        for (int k = 0; k < 4; k++) {
            good(x, k, "", 0);
            good(x, k, "  \n \n", 0);
        }
        good(x, 0, "speaks 1 when 1=1;hears tongue when not not tongue<ears;\nspins 9999*2/3-4+5;", 3);
        good(x, 0, "speaks 1 when (1=1)and(2=2 or not(3>2))or 1<2;", 1);
        good(x, 1, "person 0 at 0 on 0 for 1;person 3 at 59 on 2 for 60;person0at1on1for1;", 3);
        good(x, 1, "person 0003 at 0059 on 02 for 060 ;", 1);
        good(x, 2, "in 0 oil 0 0;in 999 oil 2 99;in 1 sweep 2;in 1 rain 0;in 1 rain 59;in 7 master 2 3;in 1 master 0 0;", 7);
        good(x, 3, "porch 0 by 2 1;porch 2 by 0 99;porch 1 by 2 5;", 3);
        good(x, 3, "\n\n porch\n0\nby 1\n\n5\n;\n", 1);
    }

    private static void tokens() {
        PorchHours x = street();
        fault(x, 0, "spins\t1;", 1, 5);
        fault(x, 0, "spins\r1;", 1, 5);
        fault(x, 0, "Spins 1;", 1, 0);
        fault(x, 0, "spinsA 1;", 1, 0);
        fault(x, 0, "spinsZ 1;", 1, 0);
        fault(x, 0, "spins@ 1;", 1, 5);
        fault(x, 0, "spins[ 1;", 1, 5);
        fault(x, 0, "spins` 1;", 1, 5);
        fault(x, 0, "spins{ 1;", 1, 5);
        fault(x, 0, "spinsz 1;", 1, 0);
        fault(x, 0, "spins 1/ 1:", 1, 10);
        fault(x, 0, "spin 1;", 1, 0);
        fault(x, 0, "spinss 1;", 1, 0);
        fault(x, 0, "  spins 1 1;", 1, 10);
        fault(x, 0, "spins 12345;", 1, 6);
        fault(x, 0, "spins 00001;", 1, 6);
        good(x, 0, "spins 0001;", 1);
        good(x, 0, "spins 9999;", 1);
        fault(x, 0, "spins 1.5;", 1, 7);
        fault(x, 0, "spins 1,5;", 1, 7);
        fault(x, 0, "spins 1;;", 1, 8);
        fault(x, 0, "spins -1;", 1, 6);
        fault(x, 0, "spins tongue1;", 1, 12);
        fault(x, 0, "spins 1tongue;", 1, 7);
        fault(x, 0, "spins tonguetongue;", 1, 6);
        fault(x, 0, "spins person;", 1, 6);
        fault(x, 0, "person 0 at 0 on 0 for 1;", 1, 0);
        fault(x, 1, "spins 1;", 1, 0);
        fault(x, 2, "porch 0 by 1 1;", 1, 0);
        fault(x, 3, "in 0 rain 0;", 1, 0);
        fault(x, 3, "porch 0 by 1 5", 1, 14);
        fault(x, 3, "porch 0 by 1 5 \n ", 1, 17);
        fault(x, 0, "spins \u0000;", 1, 6);
        fault(x, 0, "spins \u0001;", 1, 6);
        fault(x, 0, "spins \u0002;", 1, 6);
        fault(x, 0, "\u0000", 1, 0);
        fault(x, 0, "spins 1;\u00e9", 1, 8);
        StringBuilder wide = new StringBuilder("spins 1");
        while (wide.length() < 399) wide.append('\n');
        good(x, 0, wide + ";", 1);
        fault(x, 0, wide + " ", 1, 400);
    }

    private static void lawFaults() {
        PorchHours x = street();
        fault(x, 0, "speaks", 1, 6);
        fault(x, 0, "speaks;", 1, 6);
        fault(x, 0, "speaks when 1=1;", 1, 7);
        fault(x, 0, "speaks 1", 1, 8);
        fault(x, 0, "speaks 1 hears 2;", 1, 9);
        fault(x, 0, "speaks (1);", 1, 7);
        fault(x, 0, "speaks 1+;", 1, 9);
        fault(x, 0, "speaks 1++1;", 1, 9);
        fault(x, 0, "speaks 1*;", 1, 9);
        fault(x, 0, "speaks *1;", 1, 7);
        fault(x, 0, "speaks 1/tongue;", 1, 9);
        fault(x, 0, "speaks 1/;", 1, 9);
        fault(x, 0, "speaks 1/0;", 2, 9);
        fault(x, 0, "speaks 1/0000;", 2, 9);
        fault(x, 0, "speaks 1/00000;", 1, 9);
        fault(x, 0, "speaks 1*0/0;", 2, 11);
        fault(x, 0, "speaks 4/2/0;", 2, 11);
        good(x, 0, "speaks 1*0;", 1);
        good(x, 0, "speaks 1/9999/1*tongue/3;", 1);
        fault(x, 0, "speaks 1=1;", 1, 8);
        fault(x, 0, "speaks 1 when;", 1, 13);
        fault(x, 0, "speaks 1 when 1;", 1, 15);
        fault(x, 0, "speaks 1 when 1=;", 1, 16);
        fault(x, 0, "speaks 1 when 1=1=1;", 1, 17);
        fault(x, 0, "speaks 1 when =1;", 1, 14);
        fault(x, 0, "speaks 1 when 1=1 when 2=2;", 1, 18);
        fault(x, 0, "speaks 1 when 1=1 and;", 1, 21);
        fault(x, 0, "speaks 1 when 1=1 or;", 1, 20);
        fault(x, 0, "speaks 1 when 1=1 and or 1=1;", 1, 22);
        fault(x, 0, "speaks 1 when or 1=1;", 1, 14);
        fault(x, 0, "speaks 1 when 1=1 not 1=1;", 1, 18);
        fault(x, 0, "speaks 1 when not;", 1, 17);
        fault(x, 0, "speaks 1 when not and 1=1;", 1, 18);
        fault(x, 0, "speaks 1 when (1=1;", 1, 18);
        fault(x, 0, "speaks 1 when (1=1", 1, 18);
        fault(x, 0, "speaks 1 when ((1=1);", 1, 20);
        fault(x, 0, "speaks 1 when 1=1);", 1, 17);
        fault(x, 0, "speaks 1 when (1=1));", 1, 19);
        fault(x, 0, "speaks 1 when ();", 1, 15);
        fault(x, 0, "speaks 1 when (1)=1;", 1, 16);
        fault(x, 0, "speaks 1 when (1=1)=1;", 1, 19);
        fault(x, 0, "speaks 1 when (1=1)(1=1);", 1, 19);
        fault(x, 0, "speaks 1 when (1=1) 1=1;", 1, 20);
        fault(x, 0, "speaks 1 when 1=(1);", 1, 16);
        fault(x, 0, "speaks 1 when 1/0=1;", 2, 16);
        fault(x, 0, "speaks 1 when 1=1/0;", 2, 18);
        fault(x, 0, "speaks 1/0 when (;", 2, 9);
        fault(x, 0, "tongue 1;", 1, 0);
        fault(x, 0, "when 1=1;", 1, 0);
        fault(x, 0, "spins 1; 7", 1, 9);
        fault(x, 0, "spins 1; hears 1/0;", 2, 17);
    }

    private static void openFaults() {
        PorchHours x = street();
        String when = "spins 2 when ";
        good(x, 0, when + "(".repeat(8) + "1=1" + ")".repeat(8) + ";", 1);
        due.is("10: it holds", x.porchOf(0, 5), 2);
        fault(x, 0, when + "(".repeat(9) + "1=1" + ")".repeat(9) + ";", 3, 21);
        good(x, 0, when + "not ".repeat(8) + "1=1;", 1);
        due.is("10: eight nots", x.porchOf(0, 5), 2);
        good(x, 0, when + "not ".repeat(7) + "1=1; spins 3;", 2);
        due.is("10: seven nots", x.porchOf(0, 5), 3);
        fault(x, 0, when + "not ".repeat(9) + "1=1;", 3, 45);
        good(x, 0, when + "not(".repeat(4) + "1=1" + ")".repeat(4) + ";", 1);
        fault(x, 0, when + "not(".repeat(4) + "(1=1" + ")".repeat(5) + ";", 3, 29);
        fault(x, 0, when + "not(".repeat(4) + "not 1=1" + ")".repeat(4) + ";", 3, 29);
        fault(x, 0, when + "(".repeat(8) + "not 1=1" + ")".repeat(8) + ";", 3, 21);
        // what is closed is open no more: a ( by its ), a not by the end of what it denies
        good(x, 0, when + "(1=1) and ".repeat(9) + "not 1=2;", 1);
        good(x, 0, when + "not 1=2 and ".repeat(10) + "1=1;", 1);
        due.is("10: ten nots one by one", x.porchOf(0, 5), 2);
        good(x, 0, when + "not (1=2) or ".repeat(10) + "1=1;", 1);
        good(x, 0, when + "not not (1=2) or ".repeat(10) + "(((((((1=1 or (1=1))))))));", 1);
        good(x, 0, when + "(((((((not 1=1 or not 1=1 and not 1=2 or (1=1))))))));", 1);
        good(x, 0, when + "(((((((not 1=1)) and ((not 1=1 or 1=1)))))));", 1);
        fault(x, 0, when + "(((((((not 1=1)) and (((not 1=1 or 1=1))))))));", 3, 37);
        fault(x, 0, when + "(((((((not not 1=1)))))));", 3, 24);
        fault(x, 0, when + "(((((((1=1 and not (1=1))))))));", 3, 32);
        good(x, 0, when + "(((((((1=1 and not 1=1 and (1=1))))))));", 1);
        // of the open and the wrong the first by its place, at one place the least
        fault(x, 0, when + "1 (".repeat(9), 1, 15);
        fault(x, 0, when + "(".repeat(8) + "1=1 (", 1, 25);
        fault(x, 0, when + "(".repeat(8) + "and", 1, 21);
    }

    private static void callFaults() {
        PorchHours x = street();
        fault(x, 1, "person", 1, 6);
        fault(x, 1, "person x", 1, 7);
        fault(x, 1, "person 4 at 0 on 0 for 1;", 2, 7);
        fault(x, 1, "person 00004 at 0 on 0 for 1;", 1, 7);
        fault(x, 1, "person 4 x", 2, 7);
        fault(x, 1, "person 3 on 0 at 0 for 1;", 1, 9);
        fault(x, 1, "person 3 at at", 1, 12);
        fault(x, 1, "person 3 at 60 on 0 for 1;", 2, 12);
        fault(x, 1, "person 3 at 59 at 0 for 1;", 1, 15);
        fault(x, 1, "person 3 at 59 on ;", 1, 18);
        fault(x, 1, "person 3 at 59 on 3 for 1;", 2, 18);
        fault(x, 1, "person 3 at 59 on 2 at 1;", 1, 20);
        fault(x, 1, "person 3 at 59 on 2 for for", 1, 24);
        fault(x, 1, "person 3 at 59 on 2 for 0;", 2, 24);
        fault(x, 1, "person 3 at 59 on 2 for 61;", 2, 24);
        fault(x, 1, "person 3 at 59 on 2 for 60", 1, 26);
        fault(x, 1, "person 3 at 59 on 2 for 60 5;", 1, 27);
        fault(x, 1, "person 3 at 59 on 2 for 60;at", 1, 27);
        PorchHours none = new PorchHours();
        fault(none, 1, "person 0 at 0 on 0 for 1;", 2, 7);
        none.person(0, 0);
        fault(none, 1, "person 0 at 0 on 0 for 1;", 2, 17);
    }

    private static void eveningFaults() {
        PorchHours x = street();
        fault(x, 2, "in", 1, 2);
        fault(x, 2, "in rain 0;", 1, 3);
        fault(x, 2, "in 1000 rain 0;", 2, 3);
        fault(x, 2, "in 9999 x", 2, 3);
        fault(x, 2, "in 0;", 1, 4);
        fault(x, 2, "in 0 0", 1, 5);
        fault(x, 2, "in 0 porch 0;", 1, 5);
        fault(x, 2, "in 0 by 0;", 1, 5);
        fault(x, 2, "in 0 in 0;", 1, 5);
        fault(x, 2, "in 0 oil;", 1, 8);
        fault(x, 2, "in 0 oil 3 5;", 2, 9);
        fault(x, 2, "in 0 oil 2;", 1, 10);
        fault(x, 2, "in 0 oil 2 100;", 2, 11);
        fault(x, 2, "in 0 oil 2 99 1;", 1, 14);
        fault(x, 2, "in 0 sweep;", 1, 10);
        fault(x, 2, "in 0 sweep 3;", 2, 11);
        fault(x, 2, "in 0 sweep 2 1;", 1, 13);
        fault(x, 2, "in 0 rain;", 1, 9);
        fault(x, 2, "in 0 rain 60;", 2, 10);
        fault(x, 2, "in 0 rain 59 0;", 1, 13);
        fault(x, 2, "in 0 master;", 1, 11);
        fault(x, 2, "in 0 master 3 0;", 2, 12);
        fault(x, 2, "in 0 master 2;", 1, 13);
        fault(x, 2, "in 0 master 2 4;", 2, 14);
        fault(x, 2, "in 0 master 2 3 3;", 1, 16);
        fault(x, 2, "in 0 sweep 1", 1, 12);
        PorchHours none = new PorchHours();
        fault(none, 2, "in 0 oil 0 5;", 2, 9);
        fault(none, 2, "in 0 sweep 0;", 2, 11);
        good(none, 2, "in 0 rain 0;", 1);
        none.porch(1, 1);
        fault(none, 2, "in 0 master 0 0;", 2, 14);
    }

    private static void streetFaults() {
        PorchHours x = street();
        fault(x, 3, "porch", 1, 5);
        fault(x, 3, "porch 3 by 0 1;", 2, 6);
        fault(x, 3, "porch 0 0 1;", 1, 8);
        fault(x, 3, "porch 0 by;", 1, 10);
        fault(x, 3, "porch 0 by 3 1;", 2, 11);
        fault(x, 3, "porch 2 by 2 1;", 2, 11);
        fault(x, 3, "porch 2 by 002 1;", 2, 11);
        fault(x, 3, "porch 2 by 2", 2, 11);
        fault(x, 3, "porch 0 by 1;", 1, 12);
        fault(x, 3, "porch 0 by 1 0;", 2, 13);
        fault(x, 3, "porch 0 by 1 100;", 2, 13);
        fault(x, 3, "porch 0 by 1 99 1;", 1, 16);
        fault(x, 3, "porch 0 by 1 99 porch", 1, 16);
        fault(x, 3, "porch 0 by 1 9;porch 1 by 1 9;", 2, 26);
    }

    private static void seventeenLines() {
        String[] lines = {"spins 1;", "person 0 at 0 on 0 for 1;", "in 0 rain 0;", "porch 0 by 1 1;"};
        for (int k = 0; k < 4; k++) {
            PorchHours x = street();
            // blanks would make sixteen of the longest lines too long for the tape, but for one
            String sixteen = k == 1 ? "person0at0on0for1;".repeat(16) : lines[k].repeat(16);
            int length = sixteen.length();
            good(x, k, sixteen, 16);
            fault(x, k, sixteen + lines[k], 3, length);
            fault(x, k, sixteen + "\n  " + lines[k], 3, length + 3);
            fault(x, k, sixteen + lines[k].substring(0, 6), 3, length);
            fault(x, k, sixteen + ";", 1, length);
            fault(x, k, sixteen + "by 1 1;", 1, length);
            fault(x, k, sixteen.substring(0, length - 1), 1, length - 1);
            due.is("10: sixteen stay", x.look(9 + k), 16);
        }
        PorchHours x = street();
        fault(x, 0, "spins 1;".repeat(16) + "hears 1/0;", 3, 128);
        fault(x, 0, "spins 1;".repeat(15) + "hears 1/0;", 2, 128);
        fault(x, 0, "spins 1;".repeat(16) + "speaks", 3, 128);
    }

    private static void faultKeepsTheText() {
        PorchHours x = street();
        Due.tell(x, 0, "spins 7 when tongue = 0; spins 8;");
        fault(x, 0, "spins 5 when 1=1; hears 1; spins 6 when 1/0=1;", 2, 42);
        due.is("10: THE LAW stays", x.porchOf(0, 5), 7);
        due.is("10: look(9)", x.look(9), 2);
        Due.tell(x, 3, "porch 0 by 1 5;");
        fault(x, 3, "porch 0 by 1 3; porch 1 by 2 2; porch 0", 1, 39);
        due.is("10: STREET stays", x.porchOf(0, 11), 5);
        due.is("10: look(12)", x.look(12), 1);
        Due.tell(x, 1, "person 0 at 0 on 0 for 9;");
        fault(x, 1, "person 1 at 0 on 0 for 9;person", 1, 31);
        Due.tell(x, 2, "in 0 oil 0 9;");
        fault(x, 2, "in 0 oil 0 7;in 0 sweep 0;in", 1, 28);
        x.minutes(1);
        due.is("10: CALLS stay", x.look(5), 1);
        due.is("10: EVENINGS stay", x.porchOf(0, 1), 8);
        due.is("10: SWEPT", x.look(4), 0);
        Due.tell(x, 0, "spins 2;");
        due.is("10: replaced as a whole", x.porchOf(0, 5), 2);
        due.is("10: look(9)", x.look(9), 1);
        good(x, 0, "", 0);
        due.is("10: an empty LAW", x.porchOf(0, 5), 1);
    }

    /** The value of E, as far as 0 to 1000 show it, of person 3 (tongue 3, ears 3) who does not sit. */
    private static void value(String e, int want) {
        PorchHours x = street();
        Due.tell(x, 0, "hears " + e + ";");
        due.is("14: hears " + e, x.hears(3, 0), want);
    }

    private static void numbers() {
        value("7", 7);
        value("0010", 10);
        value("7-3", 4);
        value("7-3-2", 2);
        value("7-3+2", 6);
        value("1+2*3", 7);
        value("2*3+1", 7);
        value("2*3*4", 24);
        value("20-2*3-1", 13);
        value("7/2", 3);
        value("100/7/2", 7);
        value("7/2*2", 6);
        value("2*7/4", 3);
        value("1+7/2+1", 5);
        value("5-7/2", 2);
        value("9-7*1", 2);
        value("3-5", 0);
        value("1000+1", 1000);
        value("1001", 1000);
        value("1000", 1000);
        value("999", 999);
        value("tongue*ears+1", 10);
        value("100-tongue/2", 99);
        // a quotient goes towards 0: 0 - 7 / 2 of a product below 0
        value("10+0*7", 10);
        value("1-2+3-4+5", 3);
        // ints wrap: 9999 * 9999 * 43 is 4299140043, so 4172747 behind 2 to the 32nd
        value("9999*9999*43/9999", 417);
        value("9999*9999*22/9999", 0);
        value("9999*9999*22/9999/9999", 0);
        PorchHours x = street();
        Due.tell(x, 0, "hears 500 when 9999*9999*22 < 0 and 9999*9999*22 = 0 - 2095406854/1;");
        due.is("10: a NUMBER too long", x.fault(0), 1);
        // 9999 * 9999 * 22 is 2199560022, that is -2095407274: by 9999 towards 0 -209561, downwards -209562
        Due.tell(x, 0, "hears 500 when 9999*9999*22/9999/21 = 0-9979 and 9999*9999*22/9999 = 0-209*1000-561;");
        due.is("14: towards 0", x.hears(0, 0), 500);
        Due.tell(x, 0, "hears 10 + tongue * 9999 * 9999 * 22 / 9999 / 9999 * 1;");
        due.is("14: below 0, towards 0", x.hears(1, 0), 0);
        Due.tell(x, 0, "hears 100 + tongue * 9999 * 9999 * 22 / 9999 / 9999 * 1;");
        due.is("14: below 0, towards 0", x.hears(1, 0), 80);
    }

    private static void nouns() {
        PorchHours x = street();
        x.porch(6, 77);
        x.person(6, 5);
        x.set(0, 3, 13);
        x.set(0, 1, 14);
        x.minutes(60);
        x.minutes(60);
        x.act(3, 3, 95);
        x.set(0, 3, 13);
        Due.tell(x, 0, "speaks 1000 when tongue = 6; speaks 0;");
        x.act(0, 4, 3);
        x.act(0, 3, 3);
        x.act(0, 2, 3);
        x.minutes(7);
        String[] nouns = {"tongue", "ears", "sitting", "stayed", "lamp", "cobweb", "minute", "said", "heard", "evening"};
        int[] here = {6, 5, 3, 7, 88, 13, 7, 7, 0, 2};
        int[] there = {6, 5, 0, 7, 0, 99, 7, 7, 0, 2};
        int[] other = {3, 3, 3, 7, 88, 13, 7, 0, 7, 2};
        int[] spins = {0, 0, 3, 0, 9, 9, 7, 0, 0, 2};
        for (int i = 0; i < nouns.length; i++) {
            String n = nouns[i];
            Due.tell(x, 0, "speaks " + n + "; hears " + n + "; spins " + n + ";");
            due.is("13: speaks " + n, x.of(4, 7), here[i]);
            due.is("14: hears " + n, x.hears(4, 3), here[i]);
            due.is("14: hears there " + n, x.hears(4, 1), there[i]);
            due.is("13: speaks of another " + n, x.of(3, 7), other[i]);
            due.is("12: spins " + n, x.porchOf(3, 5), spins[i]);
        }
    }

    /** Whether a line with this B is the one, for person 3 on a porch without anything. */
    private static void holds(String b, boolean want) {
        PorchHours x = street();
        due.is("10: text of " + b, Due.tell(x, 0, "hears 1 when " + b + "; hears 0;"), 2);
        due.is("14: when " + b, x.hears(3, 0), want ? 1 : 0);
    }

    private static void conditions() {
        holds("1=1", true);
        holds("1=2", false);
        holds("1<2", true);
        holds("2<2", false);
        holds("3<2", false);
        holds("2>1", true);
        holds("2>2", false);
        holds("1>2", false);
        holds("0-1<0", true);
        holds("tongue+1=2*2", true);
        holds("7=1+2*3", true);
        holds("1+2*3<4", false);
        holds("not 1=1", false);
        holds("not 1=2", true);
        holds("not not 1=1", true);
        holds("not 1=2 and 1=2", false);
        holds("not (1=2 and 1=2)", true);
        holds("not 1=1 or 1=1", true);
        holds("not (1=1 or 1=1)", false);
        holds("1=1 or 1=1 and 1=2", true);
        holds("(1=1 or 1=1) and 1=2", false);
        holds("1=2 and 1=1 or 1=1", true);
        holds("1=2 and (1=1 or 1=1)", false);
        holds("1=2 or 1=1 and 1=1", true);
        holds("1=1 and 1=1 and 1=2", false);
        holds("1=2 or 1=2 or 1=1", true);
        holds("1=2 or 1=2 or 1=2", false);
        holds("1=1 and not 1=2 and 1=1", true);
        holds("1=1 and 1=2 or not 1=2 and 1=1", true);
        holds("((1=1) and (not (1=2)))", true);
        holds("not (not (1=1) and 1=2) and not (1=2 or not (1=1))", true);
        holds("not (1=2) and not (1=1)", false);
        holds("(1=2 or (1=1 and (1=2 or 1=1))) and not ((1=2))", true);
    }

    private static void firstLineThatHolds() {
        PorchHours x = street();
        Due.tell(x, 0, "spins 4; hears 10 when tongue=1; hears 20 when tongue=2; hears 30 when tongue<3; spins 5;");
        due.is("14: the first that holds", x.hears(1, 0), 10);
        due.is("14: the second", x.hears(2, 0), 20);
        due.is("14: the third", x.hears(0, 0), 30);
        due.is("14: none holds: 100 times ears", x.hears(3, 0), 300);
        due.is("12: the first without a condition", x.porchOf(0, 5), 4);
        Due.tell(x, 0, "hears 1 when 1=2; hears 2; hears 3 when 1=1;");
        due.is("14: what has none holds", x.hears(3, 0), 2);
        due.is("12: no line: 1", x.porchOf(0, 5), 1);
        x.act(0, 3, 0);
        due.is("13: no line: 60 times tongue", x.of(3, 7), 180);
        Due.tell(x, 0, "spins 9 when 1=2;");
        due.is("12: none holds: 1", x.porchOf(0, 5), 1);
    }
}
