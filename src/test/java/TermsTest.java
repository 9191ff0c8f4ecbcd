/**
 * The sentences of 'Terms' that name a boundary, part 1 (rocks, kinds, the law) and part 2 (a minute):
 * a test for each, with the sentence ahead of it. What is due is worked out by hand.
 */
public final class TermsTest {
    private static final int BAD = -1, FULL = -3;
    private static final int RED = 0, GREEN = 1, NO_COLOUR = 2;
    private static final String NINE_RED = "pr,pr,pr,pr,pr,pr,pr,pr,pr";
    private static final Check c = new Check();

    public static void main(String[] args) {
        rocksAreNineAtMost();
        rocksComeAsNew();
        darkFromUntil();
        darkOnesHearNothing();
        darkOnesSayNothing();
        delaysOfOneToNine();
        delayIsTakenWhenItIsSent();
        liarAndTwisterByNumbers();
        echoSaysWhatItSaidAhead();
        muteSaysButSendsNothing();
        trueOnes();
        numbersOfRules();
        ownIsWhatItBelievesThen();
        rulesInTurnAndNoneAtFirst();
        heardInPlaceOfWhatWas();
        heardByItsComingNotItsSending();
        sentLaterAlone();
        saidIfItIsNotWhatItSaidLast();
        shownStays();
        dueIsHeardAheadOfRules();
        minutesAndMessages();
        unlikeAndDone();
        c.end();
    }

    /** "ROCKS 0 .. 8, as they come" */
    private static void rocksAreNineAtMost() {
        NineLamps x = new NineLamps();
        for (int rock = 0; rock <= 8; rock++) {
            c.due("not there yet: " + rock, x.told(rock, 0), BAD);
            c.due("comes as " + rock, x.rock(rock % 6, 1 - rock % 2), rock);
            c.due("kind of " + rock, x.told(rock, 0), rock % 6);
            c.due("believes as told: " + rock, x.told(rock, 1), 1 - rock % 2);
        }
        c.due("a tenth", x.rock(0, 0), FULL);
        c.due("9 is none", x.told(9, 0), BAD);
        for (int left = 8; left >= 0; left--) {
            c.due("the last goes", x.out(), left);
            c.due("it is there no more: " + left, x.told(left, 0), BAD);
            c.due("how many", x.count(0), left);
        }
        c.due("a new one is 0 again", x.rock(0, 0), 0);
    }

    /** "SHOW none, SAID none yet, are DARK from .. 0 at first, until .. 0 at first", "DELAY .. 1 at first" */
    private static void rocksComeAsNew() {
        NineLamps x = Check.with("pg,pg", "a0so;a0lo");
        x.delay(0, 1, 7);
        x.delay(1, 0, 8);
        x.dark(1, 50, 60);
        x.night(3);
        x.out();
        c.due("let in in the midst of a night", x.rock(3, 0), 1);
        int[] told = {3, RED, NO_COLOUR, NO_COLOUR, 0, 0, 0, 1};
        for (int what = 0; what <= 7; what++) {
            c.due("as new: told(1, " + what + ")", x.told(1, what), told[what]);
        }
        c.due("the other heard none of it", x.heard(0, 1), NO_COLOUR);
        c.due("it heard none", x.heard(1, 0), NO_COLOUR);
        c.due("nothing is due", x.count(7), 0);
        c.due("delay to it", x.delay(0, 1, 1), 1);
        c.due("delay from it", x.delay(1, 0, 1), 1);
        c.due("minutes go on", x.count(2), 3);
        c.due("the other said green already, it says red", x.minute(), 1);
    }

    /** "DARK in MINUTES from the first on that are less than the other" */
    private static void darkFromUntil() {
        int[][] some = {{0, 0}, {0, 1}, {1, 2}, {3, 3}, {5, 2}, {2, 5}, {99, 100}, {99, 99}, {0, 100}};
        for (int[] dark : some) {
            NineLamps x = Check.with("pr", "");
            x.dark(0, dark[0], dark[1]);
            for (int minute = 0; minute <= 101; minute++) {
                int due = minute >= dark[0] && minute < dark[1] ? 1 : 0;
                c.due("dark " + dark[0] + " to " + dark[1] + " in minute " + minute, x.told(0, 6), due);
                x.minute();
            }
        }
    }

    /** "comes to who is not DARK (..; to DARK ones it is lost)": in the first and the last dark minute, and beside them. */
    private static void darkOnesHearNothing() {
        for (int delay = 1; delay <= 9; delay++) {
            NineLamps x = Check.with("pr,pr", "a0so");
            x.delay(0, 1, delay);
            x.dark(1, 4, 7);
            x.night(10);
            c.due("comes in minute " + delay + ", dark 4 to 7", x.heard(1, 0), delay >= 4 && delay < 7 ? NO_COLOUR : RED);
            c.due("nothing is due any more", x.count(7), 0);
        }
    }

    /** "Then all ROCKS that are not DARK .. go through THE LAW's RULES" */
    private static void darkOnesSayNothing() {
        NineLamps x = Check.with("prd0-2,pg", "a0bg;a0so;a0lo");
        c.due("dark: one sends", x.minute(), 1);
        c.due("dark: believes as ahead", x.told(0, 1), RED);
        c.due("dark: shows none", x.told(0, 2), NO_COLOUR);
        c.due("dark: said none", x.told(0, 3), NO_COLOUR);
        c.due("dark for the last time", x.minute(), 0);
        c.due("dark no more: it sends", x.minute(), 1);
        c.due("dark no more: believes", x.told(0, 1), GREEN);
        c.due("dark no more: shows", x.told(0, 2), GREEN);
        x = Check.with("pr,pr", "a0so");
        x.minute();
        x.dark(0, 1, 9);
        x.minute();
        c.due("what a dark one sent ahead comes", x.heard(1, 0), RED);
    }

    /** "From each one to each other one there is a DELAY (1 .. 9 ..)", "is due DELAY MINUTES on", "SLOW: .. twice the DELAY" */
    private static void delaysOfOneToNine() {
        for (int delay = 1; delay <= 9; delay++) {
            for (int twice = 1; twice <= 2; twice++) {
                NineLamps x = Check.with(twice == 2 ? "sr,mg" : "pr,mg", "a0so");
                x.delay(0, 1, delay);
                x.minute();
                for (int minutes = 0; minutes <= 18; minutes++) {
                    int due = minutes == twice * delay - 1 ? RED : NO_COLOUR;
                    c.due("delay " + delay + " times " + twice + ": due in " + minutes, x.due(1, 0, minutes), due);
                }
                for (int minute = 1; minute < twice * delay; minute++) {
                    x.minute();
                    c.due("delay " + delay + " times " + twice + ": not yet", x.heard(1, 0), NO_COLOUR);
                }
                x.minute();
                c.due("delay " + delay + " times " + twice + ": heard", x.heard(1, 0), RED);
            }
        }
    }

    private static void delayIsTakenWhenItIsSent() {
        NineLamps x = Check.with("pr,pr", "a0so");
        x.delay(0, 1, 3);
        x.minute();
        x.delay(0, 1, 9);
        x.turn(0, 3);
        c.due("what is due stays due then", x.due(1, 0, 2), RED);
        c.due("the other way is another delay", x.due(0, 1, 0), RED);
    }

    /** "LIAR: c to lesser numbers, the other COLOUR to greater ones", "TWISTER: as LIAR with the other COLOUR than c" */
    private static void liarAndTwisterByNumbers() {
        for (int liar = 0; liar <= 8; liar++) {
            for (int kind : new int[] {1, 4}) {
                for (int colour = RED; colour <= GREEN; colour++) {
                    NineLamps x = Check.with("mr,mr,mr,mr,mr,mr,mr,mr,mr", colour == RED ? "a0sr" : "a0sg");
                    x.turn(liar, kind);
                    c.due("to eight", x.minute(), 8);
                    for (int to = 0; to <= 8; to++) {
                        boolean told = to < liar == (kind == 1);
                        if (to != liar) {
                            c.due("kind " + kind + ", from " + liar + " to " + to, x.due(to, liar, 0), told ? colour : 1 - colour);
                        }
                    }
                }
            }
        }
    }

    /** "ECHO: the COLOUR that it SAID ahead of this (c, if none)" */
    private static void echoSaysWhatItSaidAhead() {
        NineLamps x = Check.with("mr,eg", "a0sg");
        x.minute();
        c.due("none ahead: green itself", x.due(0, 1, 0), GREEN);
        Check.laws(x, "a0sr");
        x.minute();
        c.due("green ahead of red", x.due(0, 1, 0), GREEN);
        c.due("it said red", x.told(1, 3), RED);
        Check.laws(x, "a0sg;a0sr");
        c.due("says two in a minute", x.minute(), 2);
        c.due("the last of them, green ahead of red", x.due(0, 1, 0), GREEN);
        x = Check.with("mr,pr", "a0sr");
        x.minute();
        x.turn(1, 2);
        Check.laws(x, "a0sg");
        x.minute();
        c.due("what it said as a plain one", x.due(0, 1, 0), RED);
    }

    /** "MUTE: nothing" */
    private static void muteSaysButSendsNothing() {
        NineLamps x = Check.with("mr,mg,mr", "a0so");
        c.due("mute: no messages", x.minute(), 0);
        c.due("mute: none due", x.count(7), 0);
        c.due("mute: it said red", x.told(0, 3), RED);
        c.due("mute: messages in all", x.count(3), 0);
        x.turn(0, 0);
        c.due("turned: nothing new to say", x.minute(), 0);
        Check.laws(x, "a0sg");
        c.due("turned: sends", x.minute(), 2);
    }

    /** "TRUE ones are PLAIN and SLOW" */
    private static void trueOnes() {
        int[] due = {1, 0, 0, 1, 0, 0};
        for (int kind = 0; kind <= 5; kind++) {
            NineLamps x = Check.with("pr", "");
            x.turn(0, kind);
            c.due("kind " + kind + ": true", x.told(0, 7), due[kind]);
            c.due("kind " + kind + ": done, if it is not true", x.count(5), 1 - due[kind]);
        }
    }

    /** Nine, of whom all but some heard red of all others: with n 0 .. 9 a rule holds, "if n or more are COUNTED". */
    private static void numbersOfRules() {
        for (int greens = 0; greens <= 9; greens += 3) {
            NineLamps x = Check.with(NINE_RED, "a0so");
            for (int rock = 0; rock < greens; rock++) {
                x.out();
            }
            for (int rock = 0; rock < greens; rock++) {
                x.rock(0, 1);
            }
            x.night(2);
            int[] counts = {9 - greens, greens, 9};
            for (int counted = 0; counted <= 2; counted++) {
                c.due("counts of " + counted, x.counts(4, counted), counts[counted]);
                for (int n = 0; n <= 9; n++) {
                    x.laws();
                    x.add(counted, n, 2, 0);
                    c.due(n + " of " + counts[counted], x.behind(4, 1, 0), counts[counted] >= n ? RED : NO_COLOUR);
                }
            }
        }
        NineLamps x = Check.with("pr", "g0lg");
        c.due("0 of none", x.behind(0, 1, 0), GREEN);
        Check.laws(x, "a1lg");
        c.due("one of itself", x.behind(0, 1, 0), GREEN);
        Check.laws(x, "a2lg");
        c.due("two of itself alone", x.behind(0, 60, 0), NO_COLOUR);
    }

    /** "2 OWN: the one it BELIEVES then" */
    private static void ownIsWhatItBelievesThen() {
        NineLamps x = Check.with("pr,mr", "a0so;a0bg;a0so;a0lo;a0br;a0bo");
        c.due("own is said, then the other one", x.minute(), 2);
        c.due("green was said last", x.told(0, 3), GREEN);
        c.due("green was shown", x.told(0, 2), GREEN);
        c.due("red is believed, its own then", x.told(0, 1), RED);
    }

    /** "THE LAW is a row of 0 to 8 RULES (none at first)", "go through THE LAW's RULES in turn" */
    private static void rulesInTurnAndNoneAtFirst() {
        NineLamps x = new NineLamps();
        x.rock(0, 0);
        x.rock(0, 1);
        c.due("no law: nothing is sent", x.night(60), 0);
        c.due("no law: nothing is shown", x.told(0, 2), NO_COLOUR);
        Check.laws(x, "a9lg;a9lg;a9lg;a9lg;a9lg;a9lg;a9lg;r1lr");
        x.minute();
        c.due("the eighth rule", x.told(0, 2), RED);
        x = Check.with("pr", "g1lg;a0bg");
        x.minute();
        c.due("a rule ahead of what makes it hold", x.told(0, 2), NO_COLOUR);
        x.minute();
        c.due("it holds in the next minute", x.told(0, 2), GREEN);
    }

    /** "it is HEARD then, in place of what was" */
    private static void heardInPlaceOfWhatWas() {
        NineLamps x = Check.with("mr,pr", "a0sr");
        x.night(2);
        c.due("red", x.heard(0, 1), RED);
        c.due("red and its own", x.counts(0, 0), 2);
        Check.laws(x, "a0sg");
        x.night(2);
        c.due("green in its place", x.heard(0, 1), GREEN);
        c.due("its own red alone", x.counts(0, 0), 1);
        c.due("one green", x.counts(0, 1), 1);
        c.due("two of both", x.counts(0, 2), 2);
    }

    private static void heardByItsComingNotItsSending() {
        NineLamps x = Check.with("mr,pr", "a0sr");
        x.delay(1, 0, 9);
        x.minute();
        x.delay(1, 0, 1);
        Check.laws(x, "a0sg");
        x.night(2);
        c.due("green was sent later, and comes first", x.heard(0, 1), GREEN);
        x.night(6);
        c.due("green until minute 9", x.heard(0, 1), GREEN);
        x.minute();
        c.due("red comes in minute 9", x.heard(0, 1), RED);
    }

    /** "of what is due from one to another one in one and the same MINUTE that which was sent later alone" */
    private static void sentLaterAlone() {
        for (int delay = 2; delay <= 9; delay++) {
            NineLamps x = Check.with("mr,pr,mr", "a0sr");
            x.delay(1, 0, delay);
            x.delay(1, 2, delay);
            x.minute();
            x.delay(1, 0, delay - 1);
            Check.laws(x, "a0sg");
            c.due("sent to two once more", x.minute(), 2);
            c.due("to 0 one is due", x.due(0, 1, delay - 2), GREEN);
            c.due("to 2 both are: red", x.due(2, 1, delay - 2), RED);
            c.due("to 2 both are: green", x.due(2, 1, delay - 1), GREEN);
            c.due("three are due", x.count(7), 3);
            c.due("four were sent", x.count(3), 4);
        }
    }

    /** "TO SAY a COLOUR, if it is not what it SAID last" */
    private static void saidIfItIsNotWhatItSaidLast() {
        NineLamps x = Check.with("pr,mr", "a0sr;a0sr;a0so");
        c.due("once", x.minute(), 1);
        c.due("no more", x.night(60), 0);
        Check.laws(x, "a0sg;a0sr;a0sg;a0sr;a0sg;a0sr;a0sg;a0sr");
        c.due("eight in a minute", x.minute(), 8);
        c.due("eight in each", x.night(3), 24);
    }

    /** "TO SHOW it, if it SHOWS none (a COLOUR once SHOWN stays)" */
    private static void shownStays() {
        NineLamps x = Check.with("pr", "a0lo;a0lg;a0bg");
        x.minute();
        c.due("red, though green behind it", x.told(0, 2), RED);
        x.night(60);
        c.due("red, though it believes green", x.told(0, 2), RED);
        c.due("it believes green", x.told(0, 1), GREEN);
        Check.laws(x, "a0lg");
        x.turn(0, 4);
        x.minute();
        c.due("red under another law", x.told(0, 2), RED);
    }

    /** "first all that is due in it comes ..; Then all ROCKS .. go through" */
    private static void dueIsHeardAheadOfRules() {
        NineLamps x = Check.with("pr,pr", "a0so;r2lr");
        x.minute();
        c.due("one red each", x.told(0, 2), NO_COLOUR);
        x.minute();
        c.due("0 counts what comes in this minute", x.told(0, 2), RED);
        c.due("1 too", x.told(1, 2), RED);
    }

    /** "Then MINUTES are one more (999 at most). MESSAGES are counted (one for each ROCK to which something is sent)" */
    private static void minutesAndMessages() {
        NineLamps x = Check.with(NINE_RED, "a0sg;a0sr;a0sg;a0sr;a0sg;a0sr;a0sg;a0sr");
        c.due("nine say eight to eight", x.minute(), 576);
        c.due("minute 1", x.count(2), 1);
        for (int i = 0; i < 16; i++) {
            c.due("60 minutes", x.night(60), 60 * 576);
        }
        c.due("up to 999", x.lots(38), 38 * 576);
        c.due("minute 999", x.count(2), 999);
        c.due("the most messages that a night can have", x.count(3), 999 * 576);
        c.due("FULL", x.minute(), FULL);
        c.due("none were sent", x.count(3), 999 * 576);
        x = Check.with("pr", "a0so");
        c.due("to none", x.minute(), 0);
        c.due("it is said, though none is there", x.told(0, 3), RED);
    }

    /** "UNLIKE: two TRUE ROCKS SHOW different COLOURS. DONE: all TRUE ROCKS SHOW a COLOUR." */
    private static void unlikeAndDone() {
        NineLamps x = Check.with("pr,sg,mr", "a0lo");
        c.due("none shown: not unlike", x.count(6), 0);
        c.due("none shown: not done", x.count(5), 0);
        x.dark(0, 0, 1);
        x.minute();
        c.due("one shows: not done", x.count(5), 0);
        c.due("one shows, a mute the other: not unlike", x.count(6), 0);
        x.minute();
        c.due("both show: done", x.count(5), 1);
        c.due("red and green: unlike", x.count(6), 1);
        x.turn(1, 2);
        c.due("one of them an echo: not unlike", x.count(6), 0);
        c.due("done still", x.count(5), 1);
        x.turn(2, 3);
        c.due("the mute one is slow now: red and red", x.count(6), 0);
        x.out();
        x.out();
        x.out();
        c.due("no rock: done", x.count(5), 1);
        c.due("no rock: not unlike", x.count(6), 0);
    }
}
