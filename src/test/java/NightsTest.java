/** Promises 17 to 28: nights, trials. What is due is worked out by hand from the document. */
public final class NightsTest {
    private static final int BAD = -1, FULL = -3, NONE = -4;
    private static final int LOW = Integer.MIN_VALUE, HIGH = Integer.MAX_VALUE;
    private static final Check c = new Check();

    public static void main(String[] args) {
        kinds();
        echo();
        laterAlone();
        rulesInTurn();
        darkOnes();
        minuteAndNight();
        lots();
        seed();
        behindAndWhen();
        darkest();
        holdsAndBears();
        worst();
        least();
        spare();
        behindTheLastMinute();
        nothingIsChanged();
        c.end();
    }

    /** What the middle one of three sends, who says red: to the lesser, to the greater, how late. */
    private static void kind(char kind, int messages, int toLesser, int toGreater, int minutes) {
        NineLamps x = Check.with("pg," + kind + "r,pg", "a0so");
        c.due("17 " + kind + ": messages", x.minute(), messages);
        c.due("17 " + kind + ": to lesser", x.due(0, 1, minutes), toLesser);
        c.due("17 " + kind + ": to greater", x.due(2, 1, minutes), toGreater);
        c.due("17 " + kind + ": not in another minute", x.due(0, 1, 1 - minutes), 2);
        c.due("17 " + kind + ": it said red", x.told(1, 3), 0);
        c.due("17 " + kind + ": messages in all", x.count(3), messages);
        c.due("17 " + kind + ": no more to say", x.minute(), 0);
    }

    private static void kinds() {
        kind('p', 6, 0, 0, 0);
        kind('l', 6, 0, 1, 0);
        kind('e', 6, 0, 0, 0);
        kind('s', 6, 0, 0, 1);
        kind('t', 6, 1, 0, 0);
        kind('m', 4, 2, 2, 0);
    }

    private static void echo() {
        NineLamps x = Check.with("pr,er", "a0so");
        x.minute();
        c.due("17 echo: red at first", x.due(0, 1, 0), 0);
        Check.laws(x, "a0bg;a0so");
        x.minute();
        c.due("17 echo: says green", x.told(1, 3), 1);
        c.due("17 echo: sends red", x.due(0, 1, 0), 0);
        c.due("17 plain: sends green", x.due(1, 0, 0), 1);
        Check.laws(x, "a0sr");
        x.minute();
        c.due("17 echo: sends green, which it said ahead", x.due(0, 1, 0), 1);
    }

    private static void laterAlone() {
        NineLamps x = Check.with("pr,er", "a0sr;a0sg");
        c.due("17 each says twice", x.minute(), 4);
        c.due("17 one each is due", x.count(7), 2);
        c.due("17 the later one", x.due(1, 0, 0), 1);
        c.due("17 echo's later one", x.due(0, 1, 0), 0);
        x = Check.with("pr,pr", "a0so");
        x.delay(0, 1, 2);
        x.minute();
        x.delay(0, 1, 1);
        Check.laws(x, "a0sg");
        x.minute();
        c.due("17 due in one minute, sent in two: the later", x.due(1, 0, 0), 1);
        c.due("17 one is due to each", x.count(7), 2);
    }

    private static void rulesInTurn() {
        NineLamps x = Check.with("pr", "a0bg;g1sg;g2sr;a0lo;a0lr");
        x.minute();
        c.due("17 believes green", x.told(0, 1), 1);
        c.due("17 counts it at once", x.told(0, 3), 1);
        c.due("17 shows its own, and that stays", x.told(0, 2), 1);
        x = Check.with("pr,pr,pg", "a1so;r3lr;g1bg");
        x.night(2);
        c.due("17 two reds are not three", x.told(0, 2), 2);
        c.due("17 one green: believes green", x.told(0, 1), 1);
        x = Check.with("pr,pg,pg", "a3lo;a0so");
        x.minute();
        c.due("17 all: not yet", x.told(0, 2), 2);
        x.minute();
        c.due("17 all: red and green", x.told(0, 2), 0);
    }

    private static void darkOnes() {
        NineLamps x = Check.with("pr,prd1-2,pr", "a0so;a3lo");
        x.minute();
        c.due("17 dark: not yet", x.due(1, 0, 0), 0);
        x.minute();
        c.due("17 dark: lost", x.heard(1, 0), 2);
        c.due("17 dark: what it said is heard", x.heard(0, 1), 0);
        c.due("17 dark: nothing is due", x.count(7), 0);
        x.minute();
        c.due("17 dark: lost for good", x.heard(1, 0), 2);
        c.due("17 dark: shows none", x.told(1, 2), 2);
        c.due("17 not dark: shows", x.told(0, 2), 0);
        x = Check.with("prd0-2", "a0lo;a0so");
        x.night(2);
        c.due("17 dark: does nothing", x.told(0, 2), 2);
        c.due("17 dark: says nothing", x.told(0, 3), 2);
        x.minute();
        c.due("17 no more dark", x.told(0, 2), 0);
    }

    private static void minuteAndNight() {
        NineLamps x = Check.with("pr,pg", "a0sr;a0sg");
        for (int n : new int[] {0, 61, -1, LOW, HIGH}) {
            c.due("18 night(" + n + ")", x.night(n), BAD);
        }
        c.due("18 refused: minute 0", x.count(2), 0);
        c.due("18 night(3)", x.night(3), 12);
        c.due("18 minute 3", x.count(2), 3);
        c.due("18 messages", x.count(3), 12);
        for (int i = 0; i < 16; i++) {
            c.due("18 night(60)", x.night(60), 240);
        }
        c.due("18 FULL: 963 and 37", x.night(37), FULL);
        c.due("19 FULL: 963 and 37", x.lots(37), FULL);
        c.due("18 BAD ahead of FULL", x.night(61), BAD);
        c.due("18 FULL: nothing went by", x.count(2), 963);
        c.due("18 up to 998", x.night(35), 140);
        c.due("17 up to 999", x.minute(), 4);
        c.due("17 FULL", x.minute(), FULL);
        c.due("18 FULL", x.night(1), FULL);
        c.due("19 FULL", x.lots(1), FULL);
        c.due("17 minute 999", x.count(2), 999);
        c.due("16 messages", x.count(3), 4 * 999);
        x = new NineLamps();
        c.due("17 no rock: a minute goes by", x.minute(), 0);
        c.due("17 minute 1", x.count(2), 1);
    }

    /** The draws behind 1, by 65536: 16838, 5758, 10113, 17515, 31051, 5627. */
    private static void lots() {
        NineLamps x = Check.with("pr,sg,mr", "a0so");
        x.delay(0, 1, 2);
        c.due("19 lots(1)", x.lots(1), 4);
        c.due("19 16838: 9 minutes", x.due(1, 0, 8), 0);
        c.due("19 5758: 8 minutes", x.due(2, 0, 7), 0);
        c.due("19 10113: 7 minutes, slow 14", x.due(0, 1, 13), 1);
        c.due("19 17515: 2 minutes, slow 4", x.due(2, 1, 3), 1);
        c.due("19 four are due", x.count(7), 4);
        c.due("19 the delay stays", Check.delay(x, 0, 1), 2);
        c.due("19 four were drawn, a mute draws none", Check.draw(x) >> 16, 17515);
        Check.rocks(x, "pr,pr");
        x.minute();
        c.due("19 none is drawn in another minute", Check.draw(x) >> 16, 17515);
        c.due("19 nor is it by lots", x.due(1, 0, 0), 0);
        for (int n : new int[] {0, 61, -1, LOW, HIGH}) {
            c.due("19 lots(" + n + ")", x.lots(n), BAD);
        }
        c.due("19 lots(60)", x.lots(60), 0);
        c.due("19 minutes", x.count(2), 61);
    }

    private static void seed() {
        NineLamps x = Check.with("pr,pr", "a0so");
        c.due("20 1 at first", x.seed(HIGH), 1);
        c.due("20 what it was", x.seed(0), HIGH);
        c.due("20 below 0", x.seed(-1), BAD);
        c.due("20 below 0", x.seed(LOW), BAD);
        c.due("20 refused: as it was", x.seed(HIGH), 0);
        x.lots(1);
        long first = (HIGH * 1103515245L + 12345L) % 2147483648L;
        long second = (first * 1103515245L + 12345L) % 2147483648L;
        c.due("20 31 bits", Check.draw(x), second);
        c.due("20 the delay of the first", x.due(1, 0, (int) (first / 65536 % 9)), 0);
    }

    /** Rock 2 hears three reds in minute 1; the others hear of it in minute 3. */
    private static NineLamps agreement() {
        return Check.with("pr,pr,pg,pr", "a1so;r3br;g3bg;r4lr;g4lg");
    }

    private static void behindAndWhen() {
        NineLamps x = agreement();
        c.due("21 behind(2, 1, 0)", x.behind(2, 1, 0), 2);
        c.due("21 behind(2, 1, 1)", x.behind(2, 1, 1), 1);
        c.due("21 behind(2, 2, 0)", x.behind(2, 2, 0), 0);
        c.due("21 behind(2, 2, 1)", x.behind(2, 2, 1), 0);
        c.due("21 behind(0, 3, 0)", x.behind(0, 3, 0), 2);
        c.due("21 behind(0, 4, 0)", x.behind(0, 4, 0), 0);
        c.due("21 behind(0, 0, 1)", x.behind(0, 0, 1), 0);
        c.due("21 behind(0, 60, 0)", x.behind(0, 60, 0), 0);
        for (int v : new int[] {-1, 61, LOW, HIGH}) {
            c.due("21 behind(0, " + v + ", 0)", x.behind(0, v, 0), BAD);
        }
        for (int v : new int[] {-1, 2, LOW, HIGH}) {
            c.due("21 behind(0, 0, " + v + ")", x.behind(0, 0, v), BAD);
            c.due("22 when(" + v + ")", x.when(v), BAD);
        }
        c.due("21 behind(4, 0, 0)", x.behind(4, 0, 0), BAD);
        c.due("21 behind(-1, 0, 0)", x.behind(-1, 0, 0), BAD);
        c.due("22 done", x.when(0), 4);
        c.due("22 never unlike", x.when(1), NONE);
        x.minute();
        c.due("22 done from then on", x.when(0), 3);
        x = Check.with("pr,pg", "a0so;a2lo");
        x.delay(0, 1, 9);
        c.due("22 done", x.when(0), 10);
        c.due("22 unlike", x.when(1), 10);
        x = Check.with("prd0-59", "a0lo");
        c.due("22 behind 60", x.when(0), 60);
        x.dark(0, 0, 60);
        c.due("22 not behind 60", x.when(0), NONE);
        x = Check.with("prd40-41,pg", "a0so");
        x.delay(1, 0, 2);
        x.night(1);
        Check.laws(x, "g1lg");
        c.due("22 what was sent ahead comes, though all is quiet", x.when(0), 2);
        x = Check.with("mr,pg", "a0lo");
        c.due("22 unlike: of true ones alone", x.when(1), NONE);
    }

    private static void darkest() {
        NineLamps x = new NineLamps();
        c.due("23 none", x.darkest(0), NONE);
        c.due("23 none", x.darkest(1), NONE);
        c.due("23 BAD ahead of NONE", x.darkest(2), BAD);
        x = Check.with("pr,pr,pr", "a1so;a2lo");
        x.delay(0, 1, 5);
        x.delay(1, 0, 5);
        c.due("23 without 2 the others wait", x.darkest(0), 2);
        c.due("23 6 minutes", x.darkest(1), 6);
        for (int v : new int[] {-1, 2, LOW, HIGH}) {
            c.due("23 darkest(" + v + ")", x.darkest(v), BAD);
        }
        x = Check.with("pr,pr", "a1so;a2lo");
        c.due("23 the other hears none: never", x.darkest(1), 61);
        c.due("23 of like ones the least", x.darkest(0), 0);
        x = Check.with("pr", "");
        c.due("23 one alone: there is no other", x.darkest(1), 0);
        x = Check.with("pr,lr,pr", "a0so;r2lr;g1lr");
        c.due("23 without the liar too", x.darkest(1), 2);
        c.due("23 all alike", x.darkest(0), 0);
        x = Check.with("pr,pr", "a1so;a2lo");
        x.night(1);
        c.due("23 what is due to the other comes", x.darkest(1), 1);
    }

    private static void holdsAndBears() {
        NineLamps x = Check.with("pr,pg", "a0lo");
        c.due("24 unlike", x.holds(0), 0);
        c.due("24 one true one is never unlike", x.holds(1), 1);
        c.due("24 the other", x.holds(2), 1);
        c.due("24 all", x.holds(3), 1);
        for (int set : new int[] {4, 7, -1, 512, LOW, HIGH}) {
            c.due("24 holds(" + set + ")", x.holds(set), BAD);
        }
        c.due("25 not for 0", x.bears(), NONE);
        c.due("24 kinds are as they were", x.told(0, 0), 0);
        x = Check.with("pr,pr", "a0lo");
        c.due("25 two", x.bears(), 2);
        // A liar 1 sends red to 0, which shows red, and green to 2 and 3, which show green.
        x = Check.with("pr,pr,pr,pr", "a1so;r4lr;g1lg");
        c.due("24 a liar 0 tells all others green", x.holds(1), 1);
        c.due("24 a liar 1 splits them", x.holds(2), 0);
        c.due("25 none can lie", x.bears(), 0);
        // One liar makes three reds and a green at most; liars 1 and 2 make two greens for 3 alone.
        x = Check.with("pr,pr,pr,pr", "a1so;r3lr;g2lg");
        c.due("24 liars 1 and 2", x.holds(6), 0);
        c.due("24 liars 0 and 1", x.holds(3), 1);
        c.due("25 one can lie", x.bears(), 1);
        x = new NineLamps();
        c.due("25 no rock", x.bears(), 2);
        c.due("24 no rock", x.holds(0), 1);
        c.due("24 no rock 0", x.holds(1), BAD);
        x = Check.with("prd0-59,pg", "a0lo");
        c.due("24 unlike behind 60", x.holds(0), 0);
        x.dark(0, 0, 60);
        c.due("24 not behind 60", x.holds(0), 1);
    }

    private static void worst() {
        NineLamps x = new NineLamps();
        c.due("26 none", x.worst(0), NONE);
        x.rock(0, 0);
        c.due("26 one", x.worst(1), NONE);
        c.due("26 BAD ahead of NONE", x.worst(2), BAD);
        x = Check.with("pr,pr", "a1so;a2lo");
        c.due("26 of like ones the first", x.worst(0), 1);
        c.due("26 9 minutes late", x.worst(1), 10);
        x = Check.with("mr,pr,pr", "a1so;r2lo");
        c.due("26 from 1 to 2", x.worst(0), 12);
        c.due("26 when", x.worst(1), 10);
        x = Check.with("mr,pr,pr", "a1so;r2lo");
        x.turn(2, 3);
        c.due("26 a slow one: from 2 to 1", x.worst(0), 21);
        c.due("26 twice 9 minutes", x.worst(1), 19);
        x = Check.with("pr,pr", "");
        c.due("26 never", x.worst(1), 61);
        c.due("26 never: the first", x.worst(0), 1);
        for (int v : new int[] {-1, 2, LOW, HIGH}) {
            c.due("26 worst(" + v + ")", x.worst(v), BAD);
        }
    }

    /** Each has heard two reds and a green. */
    private static void least() {
        NineLamps x = Check.with("pr,pr,pg", "a0so");
        x.night(2);
        Check.laws(x, "g7lo;r7lr");
        c.due("27 0 and 1: own ones, unlike", x.least(0, 60), 2);
        c.due("27 behind 1", x.least(0, 1), 2);
        c.due("27 not behind 0", x.least(0, 0), NONE);
        c.due("27 bears 2", x.least(2, 5), 2);
        c.due("27 the rules stay", x.rule(0, 1), 7);
        for (int v : new int[] {-1, 3, LOW, HIGH}) {
            c.due("27 least(" + v + ", 0)", x.least(v, 0), BAD);
        }
        for (int v : new int[] {-1, 61, LOW, HIGH}) {
            c.due("27 least(0, " + v + ")", x.least(0, v), BAD);
        }
        x = Check.with("pr,pr", "a0so;a0lo");
        c.due("27 0", x.least(2, 1), 0);
        x = Check.with("pr,pg", "a0so;a0lo");
        c.due("27 never alike", x.least(0, 60), NONE);
        c.due("27 one lies: alike, but none lies too", x.least(1, 60), NONE);
        x = new NineLamps();
        c.due("27 no rock", x.least(2, 0), 0);
        // Each has heard eight reds and a green: up to 8 own ones are shown.
        x = Check.with("pr,pr,pr,pr,pr,pr,pr,pr,pg", "a0so");
        x.night(2);
        Check.laws(x, "r0lo;a0lr");
        c.due("27 9", x.least(0, 1), 9);
        c.due("27 9 bears 2", x.least(2, 60), 9);
    }

    private static void spare() {
        NineLamps x = agreement();
        c.due("28 of green", x.spare(), 4 + 16);
        x = new NineLamps();
        c.due("28 no rule", x.spare(), 0);
        x = Check.with("pr", "a0lr;a0lr;a0br");
        c.due("28 any one alone", x.spare(), 7);
        x = Check.with("pr", "a0bg");
        c.due("28 believes otherwise", x.spare(), 0);
        x = Check.with("lr", "a0bg;a0lr");
        c.due("28 of true ones alone", x.spare(), 3);
        x = Check.with("prd0-60", "a0lr");
        c.due("28 not behind 60", x.spare(), 1);
        x.dark(0, 0, 59);
        c.due("28 behind 60", x.spare(), 0);
    }

    /** From minute 999 on minutes still go by in trials, and what is due comes. */
    private static void behindTheLastMinute() {
        NineLamps x = new NineLamps();
        for (int i = 0; i < 16; i++) {
            x.night(60);
        }
        x.night(39);
        c.due("21 minute 999", x.count(2), 999);
        x.rock(0, 0);
        x.rock(3, 1);
        x.delay(0, 1, 9);
        x.delay(1, 0, 9);
        Check.laws(x, "a0so;a2lo");
        c.due("21 from 999 on: not behind 9", x.behind(1, 9, 0), 2);
        c.due("21 from 999 on: behind 10", x.behind(1, 10, 0), 1);
        c.due("22 from 999 on", x.when(0), 19);
    }

    private static void nothingIsChanged() {
        NineLamps x = Check.with("pr,lgd2-9,sr", "a1so;r2br;g2bg;a3lo");
        x.delay(0, 1, 4);
        x.night(2);
        String before = Check.all(x);
        x.behind(0, 60, 0);
        x.when(0);
        x.when(1);
        x.darkest(0);
        x.holds(5);
        x.bears();
        x.worst(0);
        x.least(2, 60);
        x.spare();
        x.ask();
        x.fits(2);
        x.ship(3, 1);
        c.holds("21 to 28 change nothing", before.equals(Check.all(x)));
    }
}
