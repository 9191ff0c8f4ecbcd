/** Promises 29 to 36: logs, ships, images. What is due is worked out by hand from the document. */
public final class LogsTest {
    private static final int BAD = -1, FULL = -3, NONE = -4;
    private static final int LOW = Integer.MIN_VALUE, HIGH = Integer.MAX_VALUE;
    private static final Check c = new Check();

    public static void main(String[] args) {
        logAndBurn();
        sure();
        fits();
        ask();
        ship();
        imageAndRestore();
        c.end();
    }

    private static void logAndBurn() {
        NineLamps x = new NineLamps();
        c.due("30 none", x.burn(), 0);
        for (int v : new int[] {-1, 9, LOW, HIGH}) {
            c.due("29 log(" + v + ", 0, 0)", x.log(v, 0, 0), BAD);
            c.due("29 log(0, " + v + ", 0)", x.log(0, v, 0), BAD);
        }
        for (int v : new int[] {-1, 2, LOW, HIGH}) {
            c.due("29 log(0, 1, " + v + ")", x.log(0, 1, v), BAD);
        }
        c.due("29 one alike", x.log(3, 3, 0), BAD);
        c.due("29 refused: none", x.count(4), 0);
        for (int i = 1; i <= 12; i++) {
            c.due("29 whether they are there or not, the same too", x.log(8, 0, 1), i);
        }
        c.due("29 FULL", x.log(8, 0, 1), FULL);
        c.due("29 BAD ahead of FULL", x.log(8, 8, 1), BAD);
        c.due("29 twelve", x.count(4), 12);
        c.due("30 burn", x.burn(), 12);
        c.due("30 none are left", x.count(4), 0);
        c.due("30 nor sure ones", x.sure(), 0);
        c.due("29 from the first on", x.log(0, 1, 0), 1);
    }

    private static void sure() {
        NineLamps x = new NineLamps();
        c.due("31 none", x.sure(), 0);
        x.log(8, 0, 1);
        x.log(0, 8, 0);
        x.log(0, 7, 0);
        c.due("31 said alike", x.sure(), 0);
        x.log(8, 1, 0);
        c.due("31 8 said unlike, though it is not there", x.sure(), 256);
        x.log(0, 8, 1);
        c.due("31 0 said unlike to one", x.sure(), 257);
        x.log(1, 2, 0);
        x.log(2, 1, 1);
        c.due("31 of unlike ones it is nothing", x.sure(), 257);
    }

    private static void fits() {
        NineLamps x = Check.with("pr,pr,pr,pr,pr", "");
        int[] ways = {1, 5, 10, 10, 5, 1, 0, 0, 0, 0};
        for (int k = 0; k <= 9; k++) {
            c.due("32 fits(" + k + ")", x.fits(k), ways[k]);
        }
        x.log(1, 0, 0);
        x.log(1, 2, 1);
        int[] with = {0, 1, 4, 6, 4, 1, 0, 0, 0, 0};
        for (int k = 0; k <= 9; k++) {
            c.due("32 with one who is sure: fits(" + k + ")", x.fits(k), with[k]);
        }
        x.log(5, 0, 0);
        x.log(5, 2, 1);
        for (int k = 0; k <= 9; k++) {
            c.due("32 one who is sure is not there: fits(" + k + ")", x.fits(k), 0);
        }
        for (int k : new int[] {-1, 10, LOW, HIGH}) {
            c.due("32 fits(" + k + ")", x.fits(k), BAD);
        }
        x = new NineLamps();
        c.due("32 no rock: the empty set", x.fits(0), 1);
        c.due("32 no rock", x.fits(1), 0);
        x = Check.with("pr,pr,pr,pr,pr,pr,pr,pr,pr", "");
        c.due("32 of nine", x.fits(4), 126);
        c.due("32 of nine", x.fits(9), 1);
    }

    private static void ask() {
        NineLamps x = Check.with("pr,pr,pr", "");
        c.due("33 no log", x.ask(), NONE);
        x.log(1, 0, 0);
        c.due("33 from 1: to 2", x.ask(), 12);
        x.log(2, 1, 1);
        c.due("33 of like ones the least", x.ask(), 12);
        x.log(1, 0, 0);
        c.due("33 the fewest logs", x.ask(), 20);
        x.log(2, 8, 1);
        c.due("33 logs to who is not there count", x.ask(), 12);
        x.log(2, 0, 1);
        c.due("33 2 has said all", x.ask(), 12);
        x.log(1, 7, 1);
        c.due("33 1 is sure", x.ask(), NONE);
        x.log(4, 0, 0);
        c.due("33 from who is not there", x.ask(), NONE);
        x.rock(0, 0);
        c.due("33 one more: from 2 to 3", x.ask(), 23);
        x.log(0, 1, 1);
        c.due("33 0 has one log", x.ask(), 2);
        x.burn();
        c.due("33 none", x.ask(), NONE);
        for (int i = 0; i < 12; i++) {
            x.log(0, 1, 1);
        }
        c.due("33 of twelve logs", x.ask(), 2);
        x = Check.with("pr", "");
        x.log(0, 1, 0);
        c.due("33 no other rock", x.ask(), NONE);
    }

    /** 0 to 2 show red, 3 and 4 green, 5 none. */
    private static void ship() {
        NineLamps x = Check.with("pr,lr,mr,pg,eg,pr", "a0lo");
        x.dark(5, 0, 9);
        x.minute();
        c.due("34 sees red", x.ship(1, 0), 0);
        c.due("34 sees green", x.ship(16, 0), 1);
        c.due("34 sees none shown", x.ship(32, 0), NONE);
        c.due("34 sees nothing", x.ship(0, 0), NONE);
        c.due("34 both", x.ship(9, 0), NONE);
        c.due("34 not more than f", x.ship(1, 1), NONE);
        c.due("34 two, and one of the other", x.ship(11, 1), 0);
        c.due("34 two and two", x.ship(27, 1), NONE);
        c.due("34 all: three and two", x.ship(63, 1), NONE);
        c.due("34 all: three, no more than two", x.ship(63, 2), 0);
        c.due("34 all: not more than three", x.ship(63, 3), NONE);
        c.due("34 green", x.ship(56, 1), 1);
        for (int f : new int[] {-1, 5, LOW, HIGH}) {
            c.due("34 ship(1, " + f + ")", x.ship(1, f), BAD);
        }
        c.due("34 f 4", x.ship(63, 4), NONE);
        for (int set : new int[] {64, -1, 512, LOW, HIGH}) {
            c.due("34 ship(" + set + ", 0)", x.ship(set, 0), BAD);
        }
    }

    private static void imageAndRestore() {
        NineLamps x = new NineLamps();
        c.due("36 none", x.restore(), NONE);
        x = Check.with("pr,lgd2-9,sr", "a1so;r2br;g2bg;a3lo");
        x.delay(0, 1, 4);
        x.log(0, 1, 0);
        x.log(0, 2, 1);
        x.lots(2);
        String before = Check.all(x);
        c.due("35 image", x.image(), 1);
        x.type('a');
        x.sheet(0, 0, 3);
        x.burn();
        x.seed(5);
        x.delay(0, 1, 2);
        x.turn(0, 5);
        x.dark(1, 0, 0);
        x.night(9);
        x.out();
        x.add(0, 0, 0, 0);
        c.due("36 restore", x.restore(), 1);
        c.holds("36 as it was", before.equals(Check.all(x)));
        c.due("36 the tape stays", x.type('b'), 2);
        c.due("36 sheets stay", x.drop(0), 3);
        x = Check.with("pr,lgd2-9", "a1so");
        x.delay(0, 1, 4);
        x.minute();
        before = Check.all(x);
        x.image();
        for (int i = 0; i < 3; i++) {
            Check.rocks(x, "pg");
            x.minute();
            c.due("36 restore again", x.restore(), 1);
            c.holds("36 as it was, again", before.equals(Check.all(x)));
        }
        x = Check.with("pr", "");
        x.image();
        x.turn(0, 1);
        x.image();
        x.turn(0, 2);
        x.restore();
        c.due("36 the last image", x.told(0, 0), 1);
    }
}
