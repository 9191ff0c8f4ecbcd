/** Promises 1 to 16: rocks, laws. What is due is worked out by hand from the document. */
public final class RocksTest {
    private static final int BAD = -1, FULL = -3, NONE = -4, NULL = -11;
    private static final int LOW = Integer.MIN_VALUE, HIGH = Integer.MAX_VALUE;
    private static final Check c = new Check();

    public static void main(String[] args) {
        newObject();
        rock();
        out();
        turn();
        dark();
        delay();
        told();
        heardAndCounts();
        due();
        ruleAndAdd();
        type();
        laws();
        rocks();
        rocksInPlaceOfAll();
        count();
        c.end();
    }

    private static void newObject() {
        NineLamps x = new NineLamps();
        int[] counts = {0, 0, 0, 0, 0, 1, 0, 0};
        for (int what = 0; what <= 7; what++) {
            c.due("1 new: count(" + what + ")", x.count(what), counts[what]);
        }
        c.due("1 new: told(0, 0)", x.told(0, 0), BAD);
        c.due("1 new: rule(0, 0)", x.rule(0, 0), BAD);
        c.due("1 new: restore()", x.restore(), NONE);
        for (int sheet = 0; sheet <= 3; sheet++) {
            c.due("1 new: drop(" + sheet + ")", x.drop(sheet), NULL);
        }
        c.due("1 new: type", x.type(' '), 1);
        c.due("1 new: seed(7)", x.seed(7), 1);
        NineLamps y = new NineLamps();
        y.rock(0, 0);
        c.due("1 another object has its own rocks", x.count(0), 0);
    }

    private static void rock() {
        NineLamps x = new NineLamps();
        for (int kind : new int[] {-1, 6, LOW, HIGH}) {
            c.due("2 rock(" + kind + ", 0)", x.rock(kind, 0), BAD);
        }
        for (int colour : new int[] {-1, 2, LOW, HIGH}) {
            c.due("2 rock(0, " + colour + ")", x.rock(0, colour), BAD);
        }
        c.due("2 refused: no rock", x.count(0), 0);
        for (int i = 0; i < 9; i++) {
            c.due("2 rock", x.rock(i % 6, i % 2), i);
            int[] told = {i % 6, i % 2, 2, 2, 0, 0, 0, i % 6 == 0 || i % 6 == 3 ? 1 : 0};
            for (int what = 0; what <= 7; what++) {
                c.due("2 told(" + i + ", " + what + ")", x.told(i, what), told[what]);
            }
        }
        c.due("2 full", x.rock(0, 0), FULL);
        c.due("2 BAD ahead of FULL", x.rock(6, 0), BAD);
        c.due("2 refused: nine", x.count(0), 9);
    }

    private static void out() {
        NineLamps x = new NineLamps();
        c.due("3 none", x.out(), NONE);
        x = Check.with("pr,pr,pr", "a0so");
        c.due("3 six are sent", x.minute(), 6);
        c.due("3 six are due", x.count(7), 6);
        c.due("3 out", x.out(), 2);
        c.due("3 what is due to and from it is lost", x.count(7), 2);
        c.due("3 the others' stays", x.due(0, 1, 0), 0);

        x = Check.with("pr,pg", "a0so");
        x.delay(0, 1, 7);
        x.delay(1, 0, 1);
        x.night(2);
        c.due("3 heard ahead", x.heard(0, 1), 1);
        x.dark(1, 1, 50);
        c.due("3 out", x.out(), 1);
        c.due("3 counted no more", x.counts(0, 2), 1);
        c.due("3 let in anew", x.rock(0, 1), 1);
        c.due("3 heard none of it", x.heard(0, 1), 2);
        c.due("3 it heard none", x.heard(1, 0), 2);
        c.due("3 nothing is due to it", x.due(1, 0, 4), 2);
        c.due("3 delay to it is 1", Check.delay(x, 0, 1), 1);
        c.due("3 delay from it is 1", Check.delay(x, 1, 0), 1);
        c.due("3 dark from", x.told(1, 4), 0);
        c.due("3 dark until", x.told(1, 5), 0);
        c.due("3 said none", x.told(1, 3), 2);
        c.due("3 minutes stay", x.count(2), 2);
        c.due("3 messages stay", x.count(3), 2);
        x.out();
        c.due("3 the last", x.out(), 0);
        c.due("3 none is left", x.out(), NONE);
    }

    private static void turn() {
        NineLamps x = Check.with("pr,lg", "");
        c.due("4 turn(0, 3)", x.turn(0, 3), 0);
        c.due("4 turn(0, 3) again", x.turn(0, 3), 3);
        c.due("4 slow is true", x.told(0, 7), 1);
        c.due("4 turn(1, 5)", x.turn(1, 5), 1);
        c.due("4 kind", x.told(1, 0), 5);
        for (int rock : new int[] {-1, 2, 9, LOW, HIGH}) {
            c.due("4 turn(" + rock + ", 0)", x.turn(rock, 0), BAD);
        }
        for (int kind : new int[] {-1, 6, LOW, HIGH}) {
            c.due("4 turn(0, " + kind + ")", x.turn(0, kind), BAD);
        }
        c.due("4 refused: kind", x.told(0, 0), 3);
    }

    private static void dark() {
        NineLamps x = Check.with("pr", "");
        c.due("5 dark(0, 0, 5)", x.dark(0, 0, 5), 1);
        c.due("5 dark(0, 1, 5)", x.dark(0, 1, 5), 0);
        c.due("5 dark(0, 0, 0)", x.dark(0, 0, 0), 0);
        c.due("5 dark(0, 99, 0)", x.dark(0, 99, 0), 0);
        c.due("5 dark(0, 0, 100)", x.dark(0, 0, 100), 1);
        for (int from : new int[] {-1, 100, LOW, HIGH}) {
            c.due("5 dark(0, " + from + ", 1)", x.dark(0, from, 1), BAD);
        }
        for (int until : new int[] {-1, 101, LOW, HIGH}) {
            c.due("5 dark(0, 1, " + until + ")", x.dark(0, 1, until), BAD);
        }
        c.due("5 dark(1, 0, 1)", x.dark(1, 0, 1), BAD);
        c.due("5 dark(-1, 0, 1)", x.dark(-1, 0, 1), BAD);
        c.due("5 refused: from", x.told(0, 4), 0);
        c.due("5 refused: until", x.told(0, 5), 100);
        x.night(3);
        c.due("5 minute 3: dark(0, 3, 4)", x.dark(0, 3, 4), 1);
        c.due("5 minute 3: dark(0, 2, 3)", x.dark(0, 2, 3), 0);
        c.due("5 minute 3: dark(0, 4, 9)", x.dark(0, 4, 9), 0);
    }

    private static void delay() {
        NineLamps x = Check.with("pr,pr,pr", "");
        c.due("6 1 at first", x.delay(0, 2, 9), 1);
        c.due("6 what it was", x.delay(0, 2, 4), 9);
        c.due("6 the other way", x.delay(2, 0, 1), 1);
        for (int v : new int[] {0, 10, -1, LOW, HIGH}) {
            c.due("6 delay(0, 2, " + v + ")", x.delay(0, 2, v), BAD);
        }
        c.due("6 alike", x.delay(1, 1, 1), BAD);
        for (int rock : new int[] {-1, 3, LOW, HIGH}) {
            c.due("6 delay(" + rock + ", 0, 1)", x.delay(rock, 0, 1), BAD);
            c.due("6 delay(0, " + rock + ", 1)", x.delay(0, rock, 1), BAD);
        }
        c.due("6 refused: as it was", x.delay(0, 2, 1), 4);
    }

    private static void told() {
        NineLamps x = Check.with("sg d2-7,mr", "a0so;a0lo;g1br");
        x.minute();
        int[] zero = {3, 0, 1, 1, 2, 7, 0, 1};
        int[] one = {5, 0, 0, 0, 0, 0, 0, 0};
        for (int what = 0; what <= 7; what++) {
            c.due("7 told(0, " + what + ")", x.told(0, what), zero[what]);
            c.due("7 told(1, " + what + ")", x.told(1, what), one[what]);
        }
        x.minute();
        c.due("7 dark now", x.told(0, 6), 1);
        for (int what : new int[] {-1, 8, LOW, HIGH}) {
            c.due("7 told(0, " + what + ")", x.told(0, what), BAD);
        }
        for (int rock : new int[] {-1, 2, LOW, HIGH}) {
            c.due("7 told(" + rock + ", 0)", x.told(rock, 0), BAD);
        }
    }

    private static void heardAndCounts() {
        NineLamps x = Check.with("pr,pg,pg", "a0so");
        x.delay(2, 0, 3);
        x.night(2);
        c.due("8 of itself", x.heard(0, 0), 0);
        c.due("8 of 1", x.heard(0, 1), 1);
        c.due("8 none yet of 2", x.heard(0, 2), 2);
        c.due("8 1 of 0", x.heard(1, 0), 0);
        c.due("9 red", x.counts(0, 0), 1);
        c.due("9 green", x.counts(0, 1), 1);
        c.due("9 all", x.counts(0, 2), 2);
        x.night(2);
        c.due("8 of 2", x.heard(0, 2), 1);
        c.due("9 green", x.counts(0, 1), 2);
        c.due("9 all", x.counts(0, 2), 3);
        for (int v : new int[] {-1, 3, LOW, HIGH}) {
            c.due("8 heard(0, " + v + ")", x.heard(0, v), BAD);
            c.due("8 heard(" + v + ", 0)", x.heard(v, 0), BAD);
            c.due("9 counts(0, " + v + ")", x.counts(0, v), BAD);
            c.due("9 counts(" + v + ", 0)", x.counts(v, 0), BAD);
        }
    }

    private static void due() {
        NineLamps x = Check.with("pg,sr", "a0so");
        x.delay(0, 1, 3);
        x.delay(1, 0, 9);
        x.minute();
        for (int minutes = 0; minutes <= 18; minutes++) {
            c.due("10 due(1, 0, " + minutes + ")", x.due(1, 0, minutes), minutes == 2 ? 1 : 2);
            c.due("10 due(0, 1, " + minutes + ")", x.due(0, 1, minutes), minutes == 17 ? 0 : 2);
        }
        x.night(2);
        c.due("10 nearer", x.due(1, 0, 0), 1);
        c.due("10 not heard yet", x.heard(1, 0), 2);
        x.minute();
        c.due("10 heard", x.heard(1, 0), 1);
        c.due("10 no more due", x.due(1, 0, 0), 2);
        x.night(15);
        c.due("10 heard behind 18 minutes", x.heard(0, 1), 0);
        for (int minutes : new int[] {-1, 19, LOW, HIGH}) {
            c.due("10 due(0, 1, " + minutes + ")", x.due(0, 1, minutes), BAD);
        }
        c.due("10 alike", x.due(1, 1, 0), BAD);
        c.due("10 due(2, 0, 0)", x.due(2, 0, 0), BAD);
        c.due("10 due(0, 2, 0)", x.due(0, 2, 0), BAD);
        c.due("10 due(0, -1, 0)", x.due(0, -1, 0), BAD);
    }

    private static void ruleAndAdd() {
        NineLamps x = new NineLamps();
        c.due("12 add", x.add(2, 9, 1, 2), 1);
        c.due("12 add", x.add(0, 0, 2, 1), 2);
        int[][] due = {{2, 9, 1, 2}, {0, 0, 2, 1}};
        for (int i = 0; i < 2; i++) {
            for (int what = 0; what <= 3; what++) {
                c.due("11 rule(" + i + ", " + what + ")", x.rule(i, what), due[i][what]);
            }
        }
        for (int v : new int[] {-1, 4, LOW, HIGH}) {
            c.due("11 rule(0, " + v + ")", x.rule(0, v), BAD);
        }
        for (int v : new int[] {-1, 2, 8, LOW, HIGH}) {
            c.due("11 rule(" + v + ", 0)", x.rule(v, 0), BAD);
        }
        for (int v : new int[] {-1, 3, LOW, HIGH}) {
            c.due("12 counted " + v, x.add(v, 0, 0, 0), BAD);
            c.due("12 act " + v, x.add(0, 0, v, 0), BAD);
            c.due("12 colour " + v, x.add(0, 0, 0, v), BAD);
        }
        c.due("12 n -1", x.add(0, -1, 0, 0), BAD);
        c.due("12 n 10", x.add(0, 10, 0, 0), BAD);
        c.due("12 refused: two", x.count(1), 2);
        for (int i = 3; i <= 8; i++) {
            c.due("12 add", x.add(0, 1, 0, 0), i);
        }
        c.due("12 full", x.add(0, 1, 0, 0), FULL);
        c.due("12 BAD ahead of FULL", x.add(3, 1, 0, 0), BAD);
        c.due("12 eight", x.count(1), 8);
    }

    private static void type() {
        NineLamps x = new NineLamps();
        for (int v : new int[] {31, 127, -1, 0, 128, 10, LOW, HIGH, 65536 + 'a'}) {
            c.due("13 type(" + v + ")", x.type(v), BAD);
        }
        c.due("13 blank", x.type(32), 1);
        c.due("13 tilde", x.type(126), 2);
        for (int i = 3; i <= 160; i++) {
            c.due("13 type", x.type('a'), i);
        }
        c.due("13 full", x.type('a'), FULL);
        c.due("13 BAD ahead of FULL", x.type(31), BAD);
        c.due("13 a fault at the tilde", x.rocks(), -21);
        c.due("13 the tape is empty then", x.type('a'), 1);
    }

    private static void lawFault(String text, int place) {
        NineLamps x = Check.with("", "a1so;g2lr");
        c.due("14 laws() of '" + text + "'", Check.laws(x, text), -20 - place);
        c.due("14 '" + text + "': the law stays", x.count(1), 2);
        c.due("14 '" + text + "': its rules stay", x.rule(1, 3), 0);
        c.due("14 '" + text + "': the tape is empty", x.type(' '), 1);
    }

    private static void laws() {
        NineLamps x = new NineLamps();
        c.due("14 three", Check.laws(x, "r0sr;g5bg;a9lo"), 3);
        int[][] due = {{0, 0, 0, 0}, {1, 5, 1, 1}, {2, 9, 2, 2}};
        for (int i = 0; i < 3; i++) {
            for (int what = 0; what <= 3; what++) {
                c.due("14 rule(" + i + ", " + what + ")", x.rule(i, what), due[i][what]);
            }
        }
        c.due("14 the tape is empty then", x.type('r'), 1);
        c.due("14 a law in place of all", Check.laws(x, " 1 s g "), 1);
        c.due("14 of one", x.count(1), 1);
        c.due("14 none", x.laws(), 0);
        c.due("14 no law", x.count(1), 0);
        c.due("14 eight", Check.laws(x, "r1sr;r1sr;r1sr;r1sr;r1sr;r1sr;r1sr;a2bo"), 8);
        c.due("14 the eighth", x.rule(7, 1), 2);
        c.due("14 blanks alone", Check.laws(x, "   "), 0);
        lawFault("x", 0);
        lawFault(";", 0);
        lawFault("  R1sr", 2);
        lawFault("r", 1);
        lawFault("r ", 2);
        lawFault("r3", 2);
        lawFault("r33so", 2);
        lawFault("rs", 1);
        lawFault("r3sx", 3);
        lawFault("r3xr", 2);
        lawFault("r3s", 3);
        lawFault("r3so;", 5);
        lawFault("r3so ; ", 7);
        lawFault("r3so;;", 5);
        lawFault("r3so;a1", 7);
        lawFault("r3so,a1so", 4);
        lawFault("r3soa1so", 4);
        lawFault("r1sr;r1sr;r1sr;r1sr;r1sr;r1sr;r1sr;r1sr;", 39);
        lawFault("r1sr;r1sr;r1sr;r1sr;r1sr;r1sr;r1sr;r1srx", 39);
        lawFault("r1sr;r1sr;r1sr;r1sr;r1sr;r1sr;r1sr;r1sr ;r1sr", 40);
    }

    private static void rocksFault(String text, int place) {
        NineLamps x = Check.with("lg d3-4,pr", "a1so");
        x.minute();
        c.due("15 rocks() of '" + text + "'", Check.rocks(x, text), -20 - place);
        c.due("15 '" + text + "': the rocks stay", x.count(0), 2);
        c.due("15 '" + text + "': their kinds stay", x.told(0, 0), 1);
        c.due("15 '" + text + "': dark stays", x.told(0, 4), 3);
        c.due("15 '" + text + "': what they said stays", x.told(0, 3), 1);
        c.due("15 '" + text + "': what is due stays", x.count(7), 2);
        c.due("15 '" + text + "': the tape is empty", x.type(' '), 1);
    }

    private static void rocks() {
        NineLamps x = new NineLamps();
        c.due("15 six", Check.rocks(x, "pr,lg,er,sg,tr,mg"), 6);
        for (int i = 0; i < 6; i++) {
            c.due("15 kind of " + i, x.told(i, 0), i);
            c.due("15 belief of " + i, x.told(i, 1), i % 2);
        }
        c.due("15 the tape is empty then", x.type('p'), 1);
        c.due("15 blanks, dark", Check.rocks(x, " r d 9 9 - 0"), -20 - 8);
        c.due("15 blanks, dark", Check.rocks(x, " p r d 99 - 0 , s g d 0 - 100 "), 2);
        c.due("15 from", x.told(0, 4), 99);
        c.due("15 until", x.told(0, 5), 0);
        c.due("15 from", x.told(1, 4), 0);
        c.due("15 until", x.told(1, 5), 100);
        c.due("15 dark now", x.told(1, 6), 1);
        c.due("15 noughts ahead", Check.rocks(x, "prd007-00100"), 1);
        c.due("15 from", x.told(0, 4), 7);
        c.due("15 until", x.told(0, 5), 100);
        c.due("15 nine", Check.rocks(x, "pr,pr,pr,pr,pr,pr,pr,pr,pg"), 9);
        c.due("15 the ninth", x.told(8, 1), 1);
        rocksFault("", 0);
        rocksFault("  ", 2);
        rocksFault("x", 0);
        rocksFault(",pr", 0);
        rocksFault("p", 1);
        rocksFault("po", 1);
        rocksFault("pr,", 3);
        rocksFault("pr, ", 4);
        rocksFault("pr,,pr", 3);
        rocksFault("pr;pr", 2);
        rocksFault("prpr", 2);
        rocksFault("prd", 3);
        rocksFault("prdx", 3);
        rocksFault("prd-1", 3);
        rocksFault("prd100-1", 3);
        rocksFault("prd 100-1", 4);
        rocksFault("prd100", 3);
        rocksFault("prd1", 4);
        rocksFault("prd1 ", 5);
        rocksFault("prd1 0-5", 5);
        rocksFault("prd1,pr", 4);
        rocksFault("prd1-", 5);
        rocksFault("prd1-x", 5);
        rocksFault("prd1-101", 5);
        rocksFault("prd1-10 1", 8);
        rocksFault("prd1-1d1-1", 6);
        rocksFault("prd99999999999999999999-1", 3);
        rocksFault("prd1-4294967297", 5);
        rocksFault("pr,pr,pr,pr,pr,pr,pr,pr,pr,pr", 26);
        rocksFault("pr,pr,pr,pr,pr,pr,pr,pr,pr,", 26);
    }

    private static void rocksInPlaceOfAll() {
        NineLamps x = Check.with("pr,pg,pr", "a0so;a0lo");
        x.delay(0, 1, 5);
        x.dark(0, 1, 9);
        x.log(0, 1, 0);
        x.lots(4);
        int draw = Check.draw(x);
        c.due("15 two", Check.rocks(x, "pr,pg"), 2);
        c.due("15 delays are 1", Check.delay(x, 0, 1), 1);
        c.due("15 minute 0", x.count(2), 0);
        c.due("15 no messages", x.count(3), 0);
        c.due("15 nothing is due", x.count(7), 0);
        c.due("15 logs stay", x.count(4), 1);
        c.due("15 the law stays", x.count(1), 2);
        c.due("15 the draw stays", Check.draw(x), draw);
        int[] told = {0, 0, 2, 2, 0, 0, 0, 1};
        for (int what = 0; what <= 7; what++) {
            c.due("15 told(0, " + what + ")", x.told(0, what), told[what]);
        }
        c.due("15 heard none", x.heard(0, 1), 2);
    }

    private static void count() {
        NineLamps x = Check.with("pr,pg,mr", "a0so;g1lo;r1lr");
        x.log(0, 1, 0);
        c.due("16 not done", x.count(5), 0);
        x.minute();
        int[] due = {3, 3, 1, 4, 1, 1, 1, 4};
        for (int what = 0; what <= 7; what++) {
            c.due("16 count(" + what + ")", x.count(what), due[what]);
        }
        x.turn(1, 2);
        c.due("16 unlike only of true ones", x.count(6), 0);
        x.rock(3, 0);
        c.due("16 a slow one is true: not done", x.count(5), 0);
        x.turn(3, 4);
        c.due("16 a twister is not: done", x.count(5), 1);
        for (int what : new int[] {-1, 8, LOW, HIGH}) {
            c.due("16 count(" + what + ")", x.count(what), BAD);
        }
        x = Check.with("prd0-9,pg", "a0lo");
        x.minute();
        c.due("16 0 shows none: not done", x.count(5), 0);
        c.due("16 one shown colour is not unlike", x.count(6), 0);
    }
}
