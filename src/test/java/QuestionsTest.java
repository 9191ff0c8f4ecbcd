/**
 * The sentences of 'Terms' that name a boundary of a question: what would be from now on (the second
 * block of part 2), logs, ships (part 3). A test for each, worked out by hand.
 */
public final class QuestionsTest {
    private static final int BAD = -1, NONE = -4;
    private static final int RED = 0, GREEN = 1, NO_COLOUR = 2, NEVER = 61;
    private static final String NINE = "pr,pr,pr,pr,pr,pr,pr,pr,pr";
    private static final Check c = new Check();

    public static void main(String[] args) {
        behindSixty();
        behindSixtyFromNowOn();
        whenOfSixty();
        darkestOfSixty();
        darkestInAllMinutes();
        darkestOfLikeOnes();
        holdsBehindSixty();
        holdsForSetsOfNine();
        bearsOfThoseThereAre();
        worstOfSixty();
        worstOfLikeOnes();
        leastOfSixty();
        leastByLiars();
        spareOfEight();
        spareByEveryRock();
        seenOfSixty();
        seenOfAll();
        whenOnlyBeliefsChange();
        oneQuestionBehindAnother();
        sureAndFits();
        ask();
        ships();
        c.end();
    }

    /** Shows its own colour, and believes green, in its first minute that is not dark: behind one minute more. */
    private static NineLamps waiting(int until) {
        NineLamps x = Check.with("pr,pg", "a0lo;a0bg");
        x.dark(0, 0, until);
        return x;
    }

    /** "BEHIND n MINUTES (0 .. 60)" */
    private static void behindSixty() {
        NineLamps x = waiting(59);
        c.due("behind 0", x.behind(1, 0, 0), NO_COLOUR);
        c.due("behind 1", x.behind(1, 1, 0), GREEN);
        c.due("shows behind 59", x.behind(0, 59, 0), NO_COLOUR);
        c.due("shows behind 60", x.behind(0, 60, 0), RED);
        c.due("believes behind 0", x.behind(0, 0, 1), RED);
        c.due("believes behind 59", x.behind(0, 59, 1), RED);
        c.due("believes behind 60", x.behind(0, 60, 1), GREEN);
        c.due("61", x.behind(0, 61, 0), BAD);
        c.due("-1", x.behind(0, -1, 0), BAD);
        x.dark(0, 0, 60);
        c.due("not behind 60", x.behind(0, 60, 0), NO_COLOUR);
    }

    /** "(From now on; nothing is changed.)" */
    private static void behindSixtyFromNowOn() {
        NineLamps x = waiting(100);
        c.due("minute 0: not behind 60", x.behind(0, 60, 0), NO_COLOUR);
        x.night(40);
        c.due("minute 40: not behind 60", x.behind(0, 60, 0), NO_COLOUR);
        x.minute();
        c.due("minute 41: not behind 59", x.behind(0, 59, 0), NO_COLOUR);
        c.due("minute 41: behind 60", x.behind(0, 60, 0), RED);
        c.due("minute 41 it is", x.count(2), 41);
        c.due("and it shows none", x.told(0, 2), NO_COLOUR);
        x.night(60);
        c.due("minute 101: behind 0", x.behind(0, 0, 0), RED);
    }

    /** "WHEN: the fewest MINUTES (0 .. 60) behind which it is DONE, UNLIKE" */
    private static void whenOfSixty() {
        for (int what = 0; what <= 1; what++) {
            NineLamps x = waiting(59);
            c.due("when(" + what + ") of 60", x.when(what), 60);
            x.dark(0, 0, 60);
            c.due("when(" + what + ") of 61", x.when(what), NONE);
            x.minute();
            c.due("when(" + what + ") of 60 again", x.when(what), 60);
            x.dark(0, 0, 1);
            c.due("when(" + what + ") of 1", x.when(what), 1);
            x.minute();
            c.due("when(" + what + ") of 0: it is so", x.when(what), 0);
        }
        NineLamps x = new NineLamps();
        c.due("no rock: done", x.when(0), 0);
        c.due("no rock: never unlike", x.when(1), NONE);
        x = Check.with("lr,mg", "");
        c.due("no true one: done", x.when(0), 0);
        x = Check.with("pr", "a0lo");
        c.due("one alone: never unlike", x.when(1), NONE);
    }

    /** "DARKEST: .. behind the most MINUTES (61: not behind 60)" */
    private static void darkestOfSixty() {
        NineLamps x = waiting(59);
        c.due("1 dark: 0 shows behind 60", x.darkest(0), 1);
        c.due("60", x.darkest(1), 60);
        x.dark(0, 0, 60);
        c.due("1 dark: 0 does not", x.darkest(0), 1);
        c.due("61", x.darkest(1), NEVER);
        x.night(60);
        x.minute();
        c.due("both show: 0", x.darkest(1), 0);
        c.due("both show: the least", x.darkest(0), 0);
    }

    /** "if one ROCK were DARK in all MINUTES from now on": above 100 too, and what is due to it is lost. */
    private static void darkestInAllMinutes() {
        NineLamps x = Check.with("er,pr,pr", "");
        for (int i = 0; i < 3; i++) {
            x.night(60);
        }
        Check.laws(x, "a0so;a3lo");
        c.due("minute 180: without any one two are too few", x.darkest(1), NEVER);
        Check.laws(x, "a0so;a2lo");
        c.due("minute 180: two are enough", x.darkest(1), 2);
        x = Check.with("er,pr", "a0so;a2lo");
        c.due("all true ones but the dark: 1 dark, none is left", x.darkest(0), 0);
        c.due("0 dark, though not true: 1 never shows", x.darkest(1), NEVER);
        x = Check.with("pr,pr,pr", "a0so;a2lo");
        x.dark(1, 0, 5);
        c.due("told dark ones are dark too: behind 61", x.darkest(1), NEVER);
        c.due("0 dark: 2 hears nothing of 1, who heard nothing of it", x.darkest(0), 0);
    }

    /** "of like ones the least" */
    private static void darkestOfLikeOnes() {
        NineLamps x = Check.with(NINE, "a0lo");
        c.due("all alike", x.darkest(0), 0);
        c.due("behind 1", x.darkest(1), 1);
        x = Check.with(NINE, "a0lo");
        x.dark(0, 0, 4);
        c.due("with 1 to 8 it is behind 5: the least", x.darkest(0), 1);
        c.due("behind 5", x.darkest(1), 5);
        x = Check.with("mr,mr,mr,mr,mr,mr,mr,pr,pr", "a0so;r2lr");
        c.due("7 hears of 8 alone, 8 of 7: the least", x.darkest(0), 7);
        x.turn(7, 2);
        c.due("8 dark: none is left; 7 dark: 8 never shows", x.darkest(0), 7);
        x.turn(7, 0);
        x.turn(8, 2);
        c.due("7 dark: none is left; 8 dark: 7 never shows", x.darkest(0), 8);
    }

    /** "HOLDS for a set: .. it would not be UNLIKE behind 60 MINUTES" */
    private static void holdsBehindSixty() {
        NineLamps x = waiting(59);
        c.due("unlike behind 60", x.holds(0), 0);
        c.due("bears not 0", x.bears(), NONE);
        x.dark(0, 0, 60);
        c.due("unlike behind 61", x.holds(0), 1);
        c.due("bears all", x.bears(), 2);
        x.minute();
        c.due("unlike behind 60 again", x.holds(0), 0);
        c.due("0 lies: one is true", x.holds(1), 1);
        c.due("1 lies: one is true", x.holds(2), 1);
        c.due("both lie", x.holds(3), 1);
        c.due("kinds stay", x.told(0, 0) + x.told(1, 0), 0);
    }

    /** "Sets are bits (bit r is ROCK r)", "BAD: also ROCKS that there are not" */
    private static void holdsForSetsOfNine() {
        for (int rocks = 0; rocks <= 9; rocks++) {
            NineLamps x = new NineLamps();
            for (int i = 0; i < rocks; i++) {
                x.rock(0, 0);
            }
            c.due(rocks + " rocks: none", x.holds(0), 1);
            c.due(rocks + " rocks: all", x.holds((1 << rocks) - 1), 1);
            c.due(rocks + " rocks: one more", x.holds(1 << rocks), BAD);
            c.due(rocks + " rocks: all and one more", x.holds((1 << rocks + 1) - 1), BAD);
            c.due(rocks + " rocks: the highest bit", x.holds(Integer.MIN_VALUE), BAD);
            c.due(rocks + " rocks: a ship sees one more", x.ship(1 << rocks, 0), BAD);
            c.due(rocks + " rocks: a ship sees all", x.ship((1 << rocks) - 1, 0), NONE);
        }
        // A green one among reds: unlike, if it is none of the liars.
        for (int green = 0; green <= 8; green++) {
            NineLamps x = Check.with("pr,".repeat(green) + "pg" + ",pr".repeat(8 - green), "a0lo");
            c.due("green " + green + " does not lie", x.holds(511 - (1 << green)), 1);
            c.due("green " + green + " lies alone", x.holds(1 << green), 1);
            c.due("green " + green + " and one are true", x.holds(511 - (1 << green) - (1 << (green + 1) % 9)), 0);
        }
    }

    /** "BEARS: the most k (0 .. 2) so that it HOLDS for each set of k ROCKS or fewer (of those there are); none, if not for 0" */
    private static void bearsOfThoseThereAre() {
        for (int rocks = 0; rocks <= 3; rocks++) {
            NineLamps x = new NineLamps();
            for (int i = 0; i < rocks; i++) {
                x.rock(0, 0);
            }
            c.due(rocks + " rocks, no law: 2", x.bears(), 2);
        }
        // A liar 1 of three tells 0 red and 2 green; of two liars but one is true.
        NineLamps x = Check.with("pr,pr,pr", "a1so;r3lr;g1lg");
        c.due("each set of two holds", x.holds(3) + x.holds(5) + x.holds(6), 3);
        c.due("a set of one does not", x.holds(2), 0);
        c.due("so it bears 0", x.bears(), 0);
        x = Check.with("pr,pg", "a0lo");
        c.due("each set of one holds", x.holds(1) + x.holds(2), 2);
        c.due("none does not", x.bears(), NONE);
        x.minute();
        c.due("nor when it is so", x.bears(), NONE);
        x = Check.with("pr,pr,pr,pr,pr,pr", "a1so;r4lr;g3lg");
        c.due("three liars of six split them", x.holds(14), 0);
        c.due("but 2 is the most", x.bears(), 2);
    }

    /** "WORST: .. makes it DONE behind the most MINUTES (61 as above)" */
    private static void worstOfSixty() {
        NineLamps x = waiting(59);
        c.due("60 with any", x.worst(1), 60);
        c.due("the first", x.worst(0), 1);
        x.dark(0, 0, 60);
        c.due("61 with any", x.worst(1), NEVER);
        c.due("the first", x.worst(0), 1);
        x.night(60);
        x.minute();
        c.due("done: 0", x.worst(1), 0);
        c.due("the first", x.worst(0), 1);
        // Both say red in minute 51: what comes 8 minutes on is shown behind 60, 9 on behind 61.
        x = Check.with("mr,prd0-51,prd0-51", "a0so;r2lr");
        x.delay(1, 2, 8);
        c.due("behind 60 as it is", x.when(0), 60);
        c.due("from 1 to 2, behind 61", x.worst(1), NEVER);
        c.due("from 1 to 2", x.worst(0), 12);
    }

    /** "of like ones the first by from, then to; as 10 times from and to" */
    private static void worstOfLikeOnes() {
        NineLamps x = Check.with("pr,pr,pr", "a0so;a3lo");
        c.due("each pair: the first", x.worst(0), 1);
        c.due("behind 10", x.worst(1), 10);
        x = Check.with("pr,mr,pr", "a0so;r2lr");
        c.due("0 and 2: the lesser from", x.worst(0), 2);
        x = Check.with("mr,mr,mr,mr,mr,mr,mr,pr,pr", "a0so;r2lr");
        c.due("7 and 8: the lesser from", x.worst(0), 78);
        x.turn(8, 3);
        c.due("8 is slow", x.worst(0), 87);
        c.due("behind 19", x.worst(1), 19);
        x = Check.with("pr,er", "a0so;a2lo");
        c.due("0 waits for 1", x.worst(0), 10);
        x = Check.with("mr,eg,pr,pr", "a0so;g1lg");
        c.due("2 and 3 wait for 1 alone: the lesser to", x.worst(0), 12);
        c.due("behind 10", x.worst(1), 10);
    }

    /** "LEAST: the least n (0 .. 9) .. DONE behind m MINUTES (0 .. 60)" */
    private static void leastOfSixty() {
        NineLamps x = Check.with("prd0-59", "a5lo");
        c.due("done behind 60", x.least(2, 60), 0);
        c.due("not behind 59", x.least(0, 59), NONE);
        x.dark(0, 0, 60);
        c.due("done behind 61", x.least(0, 60), NONE);
        x.dark(0, 0, 0);
        c.due("done behind 1", x.least(0, 1), 0);
        c.due("not behind 0", x.least(0, 0), NONE);
        x.minute();
        c.due("it shows none yet: a5", x.told(0, 2), NO_COLOUR);
        Check.laws(x, "a0lo");
        x.minute();
        c.due("done behind 0", x.least(2, 0), 0);
        c.due("no rock", new NineLamps().least(2, 0), 0);
        // Each has heard eight reds and a green: by up to 8 all show their own.
        x = Check.with("pr,pr,pr,pr,pr,pr,pr,pr,pg", "a0so");
        x.night(2);
        Check.laws(x, "r5lo;a5lr");
        c.due("9", x.least(2, 1), 9);
        Check.laws(x, "r5lo;r5lr");
        c.due("9 reds none has: never done", x.least(0, 60), NONE);
    }

    /**
     * All have said green, the slow ones' comes in minute 2; now is minute 1. By 2 all show green, but a
     * liar 3, who is slow no more, tells 2 red ahead of that. By 3 it needs two of them, by 4 none of them
     * has said anything when all show green.
     */
    private static void leastByLiars() {
        NineLamps x = Check.with("sr,pg,pr,sr,sr,sr", "a0sg");
        x.minute();
        Check.laws(x, "a7so;r8lo;g9lg");
        c.due("bears 0", x.least(0, 60), 2);
        c.due("bears 1", x.least(1, 60), 3);
        c.due("bears 2", x.least(2, 60), 4);
        c.due("behind 2", x.least(2, 2), 4);
        c.due("not behind 1", x.least(0, 1), NONE);
        c.due("numbers stay", x.rule(0, 1) * 100 + x.rule(1, 1) * 10 + x.rule(2, 1), 789);
    }

    /** "SPARE: RULES (bits) any one of which could be left out alone .. behind 60 MINUTES" */
    private static void spareOfEight() {
        NineLamps x = Check.with("pr", "");
        c.due("no rule", x.spare(), 0);
        for (int rules = 1; rules <= 8; rules++) {
            x.add(2, 0, 2, 0);
            c.due(rules + " alike", x.spare(), rules == 1 ? 0 : (1 << rules) - 1);
        }
        for (int needed = 0; needed <= 7; needed++) {
            Check.laws(x, "g9lg;".repeat(needed) + "a0lo" + ";g9lg".repeat(7 - needed));
            c.due("all but rule " + needed, x.spare(), 255 - (1 << needed));
        }
        x = Check.with("prd0-59", "a0lr;a0bg");
        c.due("shown, believed behind 60", x.spare(), 0);
        x.dark(0, 0, 60);
        c.due("not behind 60", x.spare(), 3);
        x = new NineLamps();
        x.add(0, 0, 0, 0);
        c.due("no rock", x.spare(), 1);
        x = Check.with("lr,er,tr,mr", "a0lr;a0bg");
        c.due("no true one", x.spare(), 3);
    }

    /** "all TRUE ones would SHOW, BELIEVE .. as with it": each of nine, by what it shows, by what it believes. */
    private static void spareByEveryRock() {
        for (int green = 0; green <= 8; green++) {
            NineLamps x = Check.with("pr,".repeat(green) + "pg" + ",pr".repeat(8 - green), "r1lr;g1lg");
            c.due("green " + green + " would show none", x.spare(), 0);
            Check.laws(x, "g1lr;a0lr;a0lg");
            c.due("red all the same", x.spare(), 5);
            Check.laws(x, "g1lg;a0lr");
            c.due("green " + green + " would show red", x.spare(), 0);
            Check.laws(x, "g1br");
            c.due("green " + green + " would believe green", x.spare(), 0);
            Check.laws(x, "g1bg");
            c.due("green " + green + " believes green as it is", x.spare(), 1);
            x.turn(green, 5);
            Check.laws(x, "g1br;g1lg");
            c.due("green " + green + " is not true", x.spare(), 3);
        }
        for (int red = 0; red <= 8; red++) {
            NineLamps x = Check.with("pg,".repeat(red) + "pr" + ",pg".repeat(8 - red), "r1lr");
            c.due("red " + red + " would show none, as all others do", x.spare(), 0);
            Check.laws(x, "r1bg");
            c.due("red " + red + " would believe red", x.spare(), 0);
        }
        NineLamps x = Check.with("pr", "a0bg;g1lr;a0lg");
        c.due("red, believing green; green, believing red: unlike", x.spare() & 1, 0);
        x = Check.with(NINE, "a0lr");
        x.out();
        c.due("one taken out", x.spare(), 0);
    }

    /** "behind the fewest MINUTES (0 .. 60) it is so" */
    private static void seenOfSixty() {
        NineLamps x = waiting(59);
        x.sheet(0, 0, 2);
        x.film(0, 0, 0);
        c.due("as now", x.seen(0, 0, 0), 0);
        x.item(0, 0, 1, GREEN);
        c.due("behind 1", x.seen(0, 0, 0), 1);
        x.item(0, 0, 0, RED);
        c.due("behind 60", x.seen(0, 0, 0), 60);
        x.dark(0, 0, 60);
        c.due("behind 61", x.seen(0, 0, 0), NONE);
        x.item(0, 0, 0, NO_COLOUR);
        x.item(0, 0, 1, NO_COLOUR);
        x.minute();
        c.due("no more", x.seen(0, 0, 0), NONE);
        x.item(0, 0, 0, 3);
        c.due("3 is no colour", x.seen(0, 0, 0), NONE);
    }

    /** "What all SHOWED": also who is not true, and shows when all true ones have. */
    private static void seenOfAll() {
        NineLamps x = Check.with("pr,mg,lg", "a0lo");
        x.dark(1, 0, 3);
        x.sheet(0, 2, 3);
        int[] shown = {RED, GREEN, GREEN};
        for (int i = 0; i <= 2; i++) {
            x.item(0, 2, i, shown[i]);
        }
        c.due("the mute one is the last", x.seen(0, 2, 0), 4);
        // 1 and 2 show what they heard of 0, who is plain: 2 would show green, if it lied.
        x = Check.with("pr,mg,mg", "a0so;r1lr;g2lg");
        x.sheet(0, 2, 3);
        for (int i = 0; i <= 2; i++) {
            x.item(0, 2, i, RED);
        }
        c.due("of their own kinds", x.seen(0, 2, 0), 2);
        x.turn(0, 1);
        c.due("a liar: never", x.seen(0, 2, 0), NONE);
    }

    /** A minute in which nothing but a belief becomes another one is not the last in which something happens. */
    private static void whenOnlyBeliefsChange() {
        NineLamps x = Check.with("pr", "g1lg;a0bg");
        c.due("shows in the minute behind", x.when(0), 2);
        c.due("behind 1", x.behind(0, 1, 0), NO_COLOUR);
        c.due("behind 2", x.behind(0, 2, 0), GREEN);
        x = Check.with("pr,pg", "g1lo;a0bg");
        c.due("unlike never", x.when(1), NONE);
        c.due("done", x.when(0), 2);
    }

    /** "(..; nothing is changed.)": nor what a later question finds. */
    private static void oneQuestionBehindAnother() {
        NineLamps x = Check.with("pr,pr,pg", "a0so;a3lo");
        for (int i = 0; i < 3; i++) {
            c.due("done", x.when(0), 2);
            c.due("unlike", x.when(1), 2);
            c.due("darkest: never", x.darkest(1), NEVER);
            c.due("done, behind darkest", x.when(0), 2);
            c.due("holds not", x.holds(0), 0);
            c.due("worst", x.worst(1), 10);
            c.due("done, behind worst", x.when(0), 2);
            c.due("holds, if the green one lies", x.holds(4), 1);
            c.due("shows, behind holds", x.behind(2, 2, 0), GREEN);
            c.due("least", x.least(0, 60), NONE);
            c.due("spare", x.spare(), 0);
            c.due("bears", x.bears(), NONE);
            c.due("done, behind all", x.when(0), 2);
        }
        c.due("minute 0", x.count(2), 0);
    }

    /** "SURE: who said unlike COLOURS", "FITS k: how many sets of k of the ROCKS there are (0 .. 9) that hold all who are SURE" */
    private static void sureAndFits() {
        NineLamps x = Check.with(NINE, "");
        int[] ways = {1, 9, 36, 84, 126, 126, 84, 36, 9, 1};
        for (int k = 0; k <= 9; k++) {
            c.due("none sure: fits(" + k + ")", x.fits(k), ways[k]);
        }
        for (int rock = 8; rock >= 3; rock--) {
            x.log(rock, 0, 0);
            x.log(rock, 1, 1);
        }
        c.due("six of twelve logs", x.sure(), 504);
        int[] with = {0, 0, 0, 0, 0, 0, 1, 3, 3, 1};
        for (int k = 0; k <= 9; k++) {
            c.due("six sure: fits(" + k + ")", x.fits(k), with[k]);
        }
        x.out();
        c.due("8 is sure, there or not", x.sure(), 504);
        for (int k = 0; k <= 9; k++) {
            c.due("8 is not there: fits(" + k + ")", x.fits(k), 0);
        }
        x.burn();
        c.due("none is sure", x.sure(), 0);
        c.due("all eight", x.fits(8), 1);
        c.due("more than there are", x.fits(9), 0);
        x.log(0, 8, 0);
        x.log(0, 8, 0);
        x.log(1, 8, 1);
        c.due("the same twice, others otherwise: none", x.sure(), 0);
        x.log(0, 8, 1);
        c.due("to the same one unlike", x.sure(), 1);
    }

    /** "ASK: .. a pair (from, to) that is in no LOG, of a from who is the from of one, but not SURE .." */
    private static void ask() {
        NineLamps x = Check.with(NINE, "");
        c.due("no log", x.ask(), NONE);
        for (int to = 0; to <= 7; to++) {
            x.log(8, to, 0);
            c.due("8 has said it to " + to, x.ask(), to == 7 ? NONE : 81 + to);
        }
        x.log(3, 8, 1);
        x.log(3, 0, 1);
        c.due("3: the least to", x.ask(), 31);
        x.log(4, 8, 1);
        c.due("4 is that of fewer", x.ask(), 40);
        x.log(4, 7, 1);
        c.due("like ones: the least from", x.ask(), 31);
        x.burn();
        x.log(3, 1, 1);
        x.log(3, 2, 0);
        c.due("3 is sure", x.ask(), NONE);
        x.log(2, 3, 0);
        c.due("who only heard is no from; who is sure may be asked of as to", x.ask(), 20);
        x = Check.with("pr,pr", "");
        x.log(2, 0, 0);
        c.due("a from that is not there", x.ask(), NONE);
        x.log(0, 2, 0);
        c.due("a to that is not there is no pair asked for", x.ask(), 1);
        x.log(0, 1, 0);
        c.due("all who are there were told", x.ask(), NONE);
    }

    /** "if more than f of those it sees SHOW it, and no more than f the other one", f "0 .. 4" */
    private static void ships() {
        // 0 to 4 show red, 5 to 8 green.
        NineLamps x = Check.with("pr,pr,pr,pr,pr,pg,pg,pg,pg", "a0lo");
        c.due("none shown", x.ship(511, 0), NONE);
        x.minute();
        for (int f = 0; f <= 4; f++) {
            for (int reds = 0; reds <= 5; reds++) {
                for (int greens = 0; greens <= 4; greens++) {
                    int set = (1 << reds) - 1 + ((1 << greens) - 1 << 5);
                    int due = reds > f && greens <= f ? RED : greens > f && reds <= f ? GREEN : NONE;
                    c.due("sees " + reds + " red, " + greens + " green, f " + f, x.ship(set, f), due);
                }
            }
        }
        c.due("f 5", x.ship(511, 5), BAD);
        c.due("f -1", x.ship(511, -1), BAD);
        c.due("the greatest set", x.ship(511, 4), RED);
        c.due("beyond it", x.ship(512, 4), BAD);
    }
}
