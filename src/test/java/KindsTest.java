/**
 * Each KIND in each place where kinds might matter, and in those where they may not: what one sends, by
 * told delays and by lots, as one who shall be a liar, as one who is true or not, as one who shows.
 */
public final class KindsTest {
    private static final int NONE = -4;
    private static final int RED = 0, GREEN = 1, NO_COLOUR = 2;
    private static final int PLAIN = 0, LIAR = 1, ECHO = 2, SLOW = 3, TWISTER = 4, MUTE = 5;
    private static final String LETTERS = "plestm";
    /** By kind: what comes to a lesser number, to a greater one, of one who says red, and green behind it. */
    private static final int[][] SENT = {
        {RED, RED, GREEN, GREEN},
        {RED, GREEN, GREEN, RED},
        {RED, RED, RED, RED},
        {RED, RED, GREEN, GREEN},
        {GREEN, RED, RED, GREEN},
        {NO_COLOUR, NO_COLOUR, NO_COLOUR, NO_COLOUR},
    };
    /** The first two delays that are drawn from 1 on (1103527590, 377401575), and the draw behind them. */
    private static final int FIRST_LOT = 9, SECOND_LOT = 8, SECOND_DRAW = 377401575;
    private static final Check c = new Check();

    public static void main(String[] args) {
        for (int kind = PLAIN; kind <= MUTE; kind++) {
            sends(kind);
            sendsByLots(kind);
            becomesOneWhoLiesToGreater(kind);
            becomesOneWhoTellsLesserTheTruth(kind);
            isTrueOrNot(kind);
            isWaitedFor(kind);
            isSparedFor(kind);
            showsAsAll(kind);
            turnsWithoutForgetting(kind);
        }
        worstOfNines();
        c.end();
    }

    private static String name(int kind) {
        return LETTERS.charAt(kind) + ": ";
    }

    private static boolean isTrue(int kind) {
        return kind == PLAIN || kind == SLOW;
    }

    /** The one in the middle is of the kind, the others say nothing that could be heard. */
    private static NineLamps amongMutes(int kind, String law) {
        return Check.with("mr," + LETTERS.charAt(kind) + "r,mr", law);
    }

    /** Told delays are 3 to the lesser number and 4 to the greater one; slow ones' are twice that. */
    private static void sends(int kind) {
        NineLamps x = amongMutes(kind, "a0sr");
        x.delay(1, 0, 3);
        x.delay(1, 2, 4);
        int times = kind == SLOW ? 2 : 1;
        c.due(name(kind) + "messages", x.minute(), kind == MUTE ? 0 : 2);
        c.due(name(kind) + "red to a lesser one", x.due(0, 1, 3 * times - 1), SENT[kind][0]);
        c.due(name(kind) + "red to a greater one", x.due(2, 1, 4 * times - 1), SENT[kind][1]);
        c.due(name(kind) + "nothing else", x.count(7), kind == MUTE ? 0 : 2);
        Check.laws(x, "a0sg");
        c.due(name(kind) + "messages", x.minute(), kind == MUTE ? 0 : 2);
        c.due(name(kind) + "green to a lesser one", x.due(0, 1, 3 * times - 1), SENT[kind][2]);
        c.due(name(kind) + "green to a greater one", x.due(2, 1, 4 * times - 1), SENT[kind][3]);
        c.due(name(kind) + "said", x.told(1, 3), GREEN);
        c.due(name(kind) + "the told delay stays", x.delay(1, 0, 3), 3);
        x.night(8);
        c.due(name(kind) + "heard last by the lesser one", x.heard(0, 1), SENT[kind][2]);
        c.due(name(kind) + "heard last by the greater one", x.heard(2, 1), SENT[kind][3]);
    }

    private static void sendsByLots(int kind) {
        NineLamps x = amongMutes(kind, "a0sr");
        int times = kind == SLOW ? 2 : 1;
        c.due(name(kind) + "messages by lots", x.lots(1), kind == MUTE ? 0 : 2);
        c.due(name(kind) + "to a lesser one by lots", x.due(0, 1, FIRST_LOT * times - 1), SENT[kind][0]);
        c.due(name(kind) + "to a greater one by lots", x.due(2, 1, SECOND_LOT * times - 1), SENT[kind][1]);
        c.due(name(kind) + "nothing else by lots", x.count(7), kind == MUTE ? 0 : 2);
        c.due(name(kind) + "the draw", x.seed(1), kind == MUTE ? 1 : SECOND_DRAW);
    }

    /** A liar 0 tells 1 green in minute 1, 2 not before minute 5, which shows red by then. */
    private static void becomesOneWhoLiesToGreater(int kind) {
        NineLamps x = Check.with(LETTERS.charAt(kind) + "r,pr,pr", "a0so;g1lg;a2lr");
        x.delay(0, 2, 5);
        c.due(name(kind) + "as it is", x.holds(0), kind == LIAR ? 0 : 1);
        c.due(name(kind) + "lies to greater numbers", x.holds(1), 0);
        c.due(name(kind) + "stays", x.told(0, 0), kind);
        c.due(name(kind) + "bears", x.bears(), kind == LIAR ? NONE : 0);
    }

    /** A liar 2 tells 0 red in minute 1, whoever would have told it green, later or never. */
    private static void becomesOneWhoTellsLesserTheTruth(int kind) {
        NineLamps x = Check.with("pr,pr," + LETTERS.charAt(kind) + "r", "a0so;g1lg;a2lr");
        x.delay(2, 1, 5);
        c.due(name(kind) + "as it is", x.holds(0), kind == TWISTER ? 0 : 1);
        c.due(name(kind) + "lies to none that is lesser", x.holds(4), 1);
        // Who has said green, and says red now: an echo would tell 0 green.
        x = Check.with("prd0-1,prd0-1," + LETTERS.charAt(kind) + "gd1-2", "a0so");
        x.delay(2, 0, 9);
        x.delay(2, 1, 9);
        x.minute();
        Check.laws(x, "a0sr;g1lg;a3lr;a2lo");
        x.delay(2, 0, 1);
        x.delay(2, 1, 5);
        x.dark(2, 0, 0);
        c.due(name(kind) + "said green, as a liar", x.holds(4), 1);
    }

    /** 0 shows red, 1, of the kind, shows green. */
    private static void isTrueOrNot(int kind) {
        NineLamps x = Check.with("pr," + LETTERS.charAt(kind) + "g", "a0lo");
        c.due(name(kind) + "true", x.told(1, 7), isTrue(kind) ? 1 : 0);
        c.due(name(kind) + "when unlike", x.when(1), isTrue(kind) ? 1 : NONE);
        c.due(name(kind) + "holds", x.holds(0), isTrue(kind) ? 0 : 1);
        x.minute();
        c.due(name(kind) + "unlike", x.count(6), isTrue(kind) ? 1 : 0);
        x = Check.with("pr," + LETTERS.charAt(kind) + "g", "r1lr");
        c.due(name(kind) + "when done", x.when(0), isTrue(kind) ? NONE : 1);
        x.minute();
        c.due(name(kind) + "done", x.count(5), isTrue(kind) ? 0 : 1);
    }

    /** All wait for 1, who alone is green: of any kind it can be the darkest, and the worst but if mute. */
    private static void isWaitedFor(int kind) {
        NineLamps x = Check.with("mr," + LETTERS.charAt(kind) + "g,pr", "a0sg;g1lg");
        boolean says = kind != MUTE && kind != LIAR;
        c.due(name(kind) + "when done", x.when(0), !says ? NONE : kind == SLOW ? 3 : 2);
        c.due(name(kind) + "the darkest", x.darkest(0), says ? 1 : 0);
        c.due(name(kind) + "for ever", x.darkest(1), 61);
        c.due(name(kind) + "the worst", x.worst(0), says ? 12 : 1);
        c.due(name(kind) + "how late", x.worst(1), !says ? 61 : kind == SLOW ? 19 : 10);
    }

    /** Rule 1 is for who has a green, which is none but 1. */
    private static void isSparedFor(int kind) {
        String rocks = "mr," + LETTERS.charAt(kind) + "g";
        c.due(name(kind) + "shows by it", Check.with(rocks, "r1lr;g1lg").spare(), isTrue(kind) ? 1 : 3);
        c.due(name(kind) + "believes by it", Check.with(rocks, "r1lr;g1br").spare(), isTrue(kind) ? 0 : 3);
    }

    /** What is seen of a rock does not depend on its kind. */
    private static void showsAsAll(int kind) {
        NineLamps x = Check.with("pr," + LETTERS.charAt(kind) + "g", "a0lo");
        x.sheet(0, 0, 2);
        c.due(name(kind) + "not yet: two noughts are red", x.seen(0, 0, 0), NONE);
        x.minute();
        c.due(name(kind) + "shows", x.told(1, 2), GREEN);
        c.due(name(kind) + "a ship", x.ship(2, 0), GREEN);
        c.due(name(kind) + "a ship that sees both", x.ship(3, 0), NONE);
        c.due(name(kind) + "film", x.film(0, 0, 0), 2);
        c.due(name(kind) + "seen", x.seen(0, 0, 0), 0);
        c.due(name(kind) + "the other one is not filmed as green", x.item(0, 0, 0, GREEN), 1);
        c.due(name(kind) + "seen no more", x.seen(0, 0, 0), NONE);
        c.due(name(kind) + "red again", x.item(0, 0, 0, RED), 1);
        c.due(name(kind) + "but 1 as red", x.item(0, 0, 1, RED), 1);
        c.due(name(kind) + "seen no more", x.seen(0, 0, 0), NONE);
    }

    /** "KIND of a ROCK becomes another one": all else stays. */
    private static void turnsWithoutForgetting(int kind) {
        NineLamps x = Check.with("pr,pr,mr", "a0so;a0lo;a0bg");
        x.dark(1, 7, 9);
        x.delay(1, 0, 4);
        x.night(2);
        String before = Check.all(x);
        c.due(name(kind) + "was plain", x.turn(1, kind), PLAIN);
        c.due(name(kind) + "kind", x.told(1, 0), kind);
        c.due(name(kind) + "believes", x.told(1, 1), GREEN);
        c.due(name(kind) + "shows", x.told(1, 2), RED);
        c.due(name(kind) + "said", x.told(1, 3), GREEN);
        c.due(name(kind) + "what it sent is due as it was", x.due(0, 1, 2), RED);
        c.due(name(kind) + "was", x.turn(1, PLAIN), kind);
        c.holds(name(kind) + "all as it was", before.equals(Check.all(x)));
    }

    /** "the pair (from, to) whose DELAY, if it were 9": one whose DELAY is 9 is a pair, too. */
    private static void worstOfNines() {
        NineLamps x = Check.with("pr,pr", "a0so;a2lo");
        x.delay(0, 1, 9);
        x.delay(1, 0, 9);
        c.due("both are 9: the first", x.worst(0), 1);
        c.due("both are 9: behind 10", x.worst(1), 10);
        x = Check.with("mr,pr,pr", "a0so;r2lr");
        x.delay(1, 2, 9);
        c.due("it is 9 already: none makes it later, the first", x.worst(0), 1);
        c.due("it is 9 already: behind 10", x.worst(1), 10);
        x = Check.with("pr,sr,pr", "a0so;a3lo");
        x.delay(1, 2, 9);
        c.due("a slow one's is 18 already: the first", x.worst(0), 1);
        c.due("behind 19", x.worst(1), 19);
    }
}
