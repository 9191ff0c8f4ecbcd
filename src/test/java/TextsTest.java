/**
 * The sentences of 'Terms' that name a boundary of lots, texts, images and sheets (the block of part 3,
 * and what stands ahead of the calls of sheets): a test for each, worked out by hand.
 */
public final class TextsTest {
    private static final int BAD = -1, NOT = -2, FULL = -3, NONE = -4, NULL = -11, CAST = -12, INDEX = -13;
    private static final int NO_COLOUR = 2;
    private static final String NINE = "pr,pr,pr,pr,pr,pr,pr,pr,pr";
    private static final Check c = new Check();

    public static void main(String[] args) {
        letInTakeOut();
        takeOutInEveryMinute();
        drawsByNumbers();
        drawsOfOneToNine();
        drawsOnlyWhatIsSent();
        lettersOfLaws();
        lettersOfRocks();
        manyRules();
        manyRocks();
        nothingBetween();
        numbersOfDark();
        blanksEndNumbers();
        fullTape();
        emptyTapeThen();
        rocksInPlaceOfAll();
        imageOfNothing();
        imageKeepsAllBut();
        sheetsOfAllSizes();
        nineOnASheet();
        c.end();
    }

    /** "TO TAKE OUT: the last one (what is due to it, from it, is lost; others have HEARD none of it then)" */
    private static void letInTakeOut() {
        NineLamps x = Check.with("sr,sr,sr", "a0so");
        for (int from = 0; from <= 2; from++) {
            for (int to = 0; to <= 2; to++) {
                x.delay(from, to, from + to == 3 ? 9 : 1);
            }
        }
        x.night(3);
        c.due("heard: all but of 1 and 2 each other", x.counts(2, 2), 2);
        c.due("due: from 1 to 2, from 2 to 1", x.count(7), 2);
        c.due("due to the last, in 18 less 3", x.due(2, 1, 15), 0);
        c.due("two are left", x.out(), 2);
        c.due("what was due to it, from it, is lost", x.count(7), 0);
        c.due("0 has heard none of it: its own and 1's", x.counts(0, 2), 2);
        c.due("one more", x.rock(0, 1), 2);
        c.due("0 has heard none of the new one", x.heard(0, 2), NO_COLOUR);
        c.due("nothing is due to the new one", x.due(2, 1, 15), NO_COLOUR);
        c.due("nothing from it", x.due(1, 2, 15), NO_COLOUR);
        c.due("it says its own", x.minute(), 2);
        x.out();
        x.out();
        x.out();
        c.due("none is left: nothing is due", x.count(7), 0);
        c.due("minutes go on", x.count(2), 4);
        c.due("messages stay", x.count(3), 8);
    }

    /** What is due goes round and round: in each of many minutes all of it is counted, and lost with a rock. */
    private static void takeOutInEveryMinute() {
        for (int minute = 0; minute <= 40; minute++) {
            NineLamps x = Check.with("sr,sr", "");
            if (minute > 0) {
                x.night(minute);
            }
            for (int delay = 1; delay <= 9; delay++) {
                x.delay(0, 1, delay);
                x.delay(1, 0, delay);
                Check.laws(x, delay % 2 == 0 ? "a0sr" : "a0sg");
                c.due("each sends one", x.minute(), 2);
            }
            int due = 0;
            for (int minutes = 0; minutes <= 18; minutes++) {
                due += (x.due(0, 1, minutes) != NO_COLOUR ? 1 : 0) + (x.due(1, 0, minutes) != NO_COLOUR ? 1 : 0);
            }
            // With delay d it is sent d - 1 minutes behind the first one, and comes 3 d - 1 behind it: three have come.
            c.due("minute " + minute + ": six each are due", x.count(7), 12);
            c.due("minute " + minute + ": they are seen", due, 12);
            x.out();
            c.due("minute " + minute + ": all are lost", x.count(7), 0);
            x.rock(0, 0);
            for (int minutes = 0; minutes <= 18; minutes++) {
                c.due("minute " + minute + ": none to the new one", x.due(1, 0, minutes), NO_COLOUR);
                c.due("minute " + minute + ": none from it", x.due(0, 1, minutes), NO_COLOUR);
            }
        }
    }

    private static long next(long draw) {
        return (draw * 1103515245L + 12345L) % (1L << 31);
    }

    /** "each time a ROCK sends something to another one, by numbers, it becomes the lowest 31 bits of .." */
    private static void drawsByNumbers() {
        for (int seed : new int[] {0, 1, 2, 65535, 65536, 1 << 30, Integer.MAX_VALUE - 1, Integer.MAX_VALUE}) {
            NineLamps x = Check.with("pr,sg,pr,lg", "a0so");
            x.seed(seed);
            c.due("twelve are sent", x.lots(1), 12);
            long draw = seed;
            for (int from = 0; from <= 3; from++) {
                for (int to = 0; to <= 3; to++) {
                    if (from != to) {
                        draw = next(draw);
                        int minutes = (int) (draw / 65536 % 9 + 1) * (from == 1 ? 2 : 1);
                        int colour = from == 3 || from == 1 ? 1 : 0;
                        c.due("seed " + seed + ", from " + from + " to " + to, x.due(to, from, minutes - 1), colour);
                    }
                }
            }
            c.due("seed " + seed + ": the draw", Check.draw(x), draw);
            c.due("seed " + seed + ": twelve are due", x.count(7), 12);
        }
    }

    /** "it by 65536 (cut), left over by 9, and 1 is the DELAY .. (SLOW ones': twice that)": each of 1 .. 9. */
    private static void drawsOfOneToNine() {
        for (int delay = 1; delay <= 9; delay++) {
            int seed = 0;
            while (next(seed) / 65536 % 9 + 1 != delay) {
                seed++;
            }
            for (int twice = 1; twice <= 2; twice++) {
                NineLamps x = Check.with(twice == 2 ? "sr,mg" : "pr,mg", "a0so");
                x.seed(seed);
                x.delay(0, 1, 10 - delay);
                x.lots(1);
                for (int minutes = 0; minutes <= 18; minutes++) {
                    int due = minutes == twice * delay - 1 ? 0 : NO_COLOUR;
                    c.due("drawn " + delay + " times " + twice + ": in " + minutes, x.due(1, 0, minutes), due);
                }
                c.due("the told one stays", x.delay(0, 1, 1), 10 - delay);
            }
        }
    }

    private static void drawsOnlyWhatIsSent() {
        NineLamps x = Check.with("mr,mg", "a0so");
        x.lots(60);
        c.due("mute ones draw nothing", x.seed(1), 1);
        x = Check.with("pr", "a0so");
        x.lots(60);
        c.due("one alone draws nothing", x.seed(1), 1);
        x = Check.with("pr,pg", "a0so");
        x.night(1);
        x.when(0);
        x.behind(0, 60, 0);
        c.due("told delays draw nothing", x.seed(1), 1);
        x.lots(60);
        c.due("nor what was said ahead", x.seed(1), 1);
        x = Check.with("pr,mg", "a0sr;a0sg");
        c.due("two messages in each of 60", x.lots(60), 120);
        long draw = 1;
        for (int i = 0; i < 120; i++) {
            draw = next(draw);
        }
        c.due("120 draws", Check.draw(x), draw);
        x = Check.with("pr,mr", "a0so;a2lo");
        x.seed(0);
        x.delay(0, 1, 6);
        c.due("questions go by told delays", x.behind(1, 6, 0) * 10 + x.behind(1, 7, 0), 20);
    }

    private interface Reading {
        int of(NineLamps x, String text);
    }

    /** Each letter at a place of a text: what may stand there does, all others are the fault. */
    private static void letters(Reading read, String text, int place, String may, String testedElsewhere) {
        for (int letter = 33; letter <= 126; letter++) {
            String changed = text.substring(0, place) + (char) letter + text.substring(place + 1);
            if (may.indexOf(letter) >= 0) {
                c.holds("'" + changed + "'", read.of(new NineLamps(), changed) > 0);
            } else if (testedElsewhere.indexOf(letter) < 0) {
                c.due("'" + changed + "'", read.of(new NineLamps(), changed), -20 - place);
            }
        }
    }

    /** Blanks ahead of a place are passed over, a fault behind them is at its own place, the end behind them is. */
    private static void blanks(Reading read, String text, int place, int wholeUpToHere) {
        for (int blanks = 1; blanks <= 3; blanks++) {
            NineLamps x = new NineLamps();
            String ahead = text.substring(0, place) + " ".repeat(blanks);
            c.holds("'" + ahead + text.substring(place) + "'", read.of(x, ahead + text.substring(place)) > 0);
            c.due("'" + ahead + "~'", read.of(x, ahead + "~"), -20 - place - blanks);
            c.due("'" + ahead + "'", read.of(x, ahead), wholeUpToHere >= 0 ? wholeUpToHere : -20 - place - blanks);
        }
        c.due("the end of '" + text.substring(0, place) + "'", read.of(new NineLamps(), text.substring(0, place)),
                wholeUpToHere >= 0 ? wholeUpToHere : -20 - place);
    }

    /** "r g a .., a digit 0 .. 9, s b l .., r g o ..", "with ; between", "the first letter that can't stand there" */
    private static void lettersOfLaws() {
        String[] may = {"rga", "0123456789", "sbl", "rgo", ";", "rga", "0123456789", "sbl", "rgo"};
        int[] whole = {0, -1, -1, -1, 1, -1, -1, -1, -1};
        for (int place = 0; place < may.length; place++) {
            letters(Check::laws, "r1sr;g2bg", place, may[place], "");
            blanks(Check::laws, "r1sr;g2bg", place, whole[place]);
        }
        NineLamps x = new NineLamps();
        for (int counted = 0; counted <= 2; counted++) {
            for (int n = 0; n <= 9; n++) {
                for (int act = 0; act <= 2; act++) {
                    for (int colour = 0; colour <= 2; colour++) {
                        x = new NineLamps();
                        String text = "" + "rga".charAt(counted) + n + "sbl".charAt(act) + "rgo".charAt(colour);
                        c.due(text, Check.laws(x, text), 1);
                        int got = x.rule(0, 0) * 1000 + x.rule(0, 1) * 100 + x.rule(0, 2) * 10 + x.rule(0, 3);
                        c.due(text + " is read", got, counted * 1000 + n * 100 + act * 10 + colour);
                    }
                }
            }
        }
        c.due("a digit is one letter", Check.laws(x, "r10so"), -22);
        c.due("with a nought ahead", Check.laws(x, "r01so"), -22);
    }

    /** "p l e s t m .., r or g .., perhaps d, a number .., - and a number", "with , between" */
    private static void lettersOfRocks() {
        String[] may = {"plestm", "rg", ",", "plestm", "rg", "d", "0123456789", "-", "0123456789"};
        // What may stand at these places too, but makes a fault of a letter behind it, or of the number ahead.
        String[] elsewhere = {"", "", "d", "", "", ",", "", "0123456789", ""};
        int[] whole = {-1, -1, 1, -1, -1, 2, -1, -1, -1};
        for (int place = 0; place < may.length; place++) {
            letters(Check::rocks, "pr,sgd5-7", place, may[place], elsewhere[place]);
            blanks(Check::rocks, "pr,sgd5-7", place, whole[place]);
        }
        NineLamps x = new NineLamps();
        c.due("a d where a comma may stand", Check.rocks(x, "prdsgd5-7"), -23);
        c.due("a comma where a d may stand", Check.rocks(x, "pr,sg,5-7"), -26);
        c.due("a digit where a - may stand", Check.rocks(x, "pr,sgd557"), -26);
        c.due("another d", Check.rocks(x, "pr,sgd5-7d5-7"), -29);
        for (int kind = 0; kind <= 5; kind++) {
            for (int colour = 0; colour <= 1; colour++) {
                String text = "" + "plestm".charAt(kind) + "rg".charAt(colour);
                c.due(text, Check.rocks(x, text), 1);
                c.due(text + " is read", x.told(0, 0) * 10 + x.told(0, 1), kind * 10 + colour);
            }
        }
    }

    /** "A LAW: 0 to 8 RULES with ; between" */
    private static void manyRules() {
        for (int rules = 0; rules <= 10; rules++) {
            NineLamps x = Check.with("", "g7lg");
            String text = rules == 0 ? "" : "r1sr" + ";r1sr".repeat(rules - 1);
            c.due(rules + " rules", Check.laws(x, text), rules <= 8 ? rules : -20 - 39);
            c.due(rules + " rules: how many", x.count(1), rules <= 8 ? rules : 1);
            c.due(rules + " rules and ;", Check.laws(x, text + ";"), -20 - (rules < 8 && rules > 0 ? 5 * rules : rules == 0 ? 0 : 39));
        }
    }

    /** No rule, no rock stands behind another one with nothing between, behind the last that may be neither. */
    private static void nothingBetween() {
        for (int many = 1; many <= 9; many++) {
            NineLamps x = new NineLamps();
            String rules = "r1sr" + ";r1sr".repeat(many - 1);
            c.due(many + " rules and one more", Check.laws(x, rules + "g2bg"), -20 - Math.min(rules.length(), 39));
            String rocks = "pr" + ",pr".repeat(many - 1);
            c.due(many + " rocks and one more", Check.rocks(x, rocks + "lg"), -20 - rocks.length());
        }
    }

    /** "ROCKS: 1 to 9 with , between" */
    private static void manyRocks() {
        for (int rocks = 0; rocks <= 11; rocks++) {
            NineLamps x = Check.with("lg,lg", "");
            String text = rocks == 0 ? "" : "pr" + ",pr".repeat(rocks - 1);
            int due = rocks == 0 ? -20 : rocks <= 9 ? rocks : -20 - 26;
            c.due(rocks + " rocks", Check.rocks(x, text), due);
            c.due(rocks + " rocks: how many", x.count(0), due < 0 ? 2 : rocks);
            c.due(rocks + " rocks: kind", x.told(0, 0), due < 0 ? 1 : 0);
            c.due(rocks + " rocks and ,", Check.rocks(x, text + ","), -20 - (rocks < 9 && rocks > 0 ? 3 * rocks : rocks == 0 ? 0 : 26));
        }
    }

    /** "a number 0 .. 99, - and a number 0 .. 100", "of a number that may not be its first" */
    private static void numbersOfDark() {
        for (int v = 0; v <= 130; v++) {
            NineLamps x = Check.with("mg", "");
            c.due("from " + v, Check.rocks(x, "prd" + v + "-50"), v <= 99 ? 1 : -23);
            c.due("from " + v + " is read", x.told(0, 4), v <= 99 ? v : 0);
            c.due("until 50", x.told(0, 5), v <= 99 ? 50 : 0);
            x = Check.with("mg", "");
            c.due("until " + v, Check.rocks(x, "pr d50- " + v), v <= 100 ? 1 : -28);
            c.due("until " + v + " is read", x.told(0, 5), v <= 100 ? v : 0);
        }
        for (String v : new String[] {"1000", "2147483648", "4294967296", "18446744073709551617", "9".repeat(80)}) {
            NineLamps x = Check.with("mg", "");
            c.due("from " + v, Check.rocks(x, "pr,prd" + v + "-1"), -26);
            c.due("until " + v, Check.rocks(x, "pr,prd1-" + v), -28);
            c.due("the end behind it", Check.rocks(x, "pr,prd" + v), -26);
            c.due("a letter behind it", Check.rocks(x, "pr,prd" + v + "x"), -26);
            c.due("stays", x.told(0, 0), 5);
        }
        NineLamps x = new NineLamps();
        c.due("noughts ahead", Check.rocks(x, "prd" + "0".repeat(60) + "99-" + "0".repeat(60) + "100"), 1);
        c.due("noughts ahead: from", x.told(0, 4), 99);
        c.due("noughts ahead: until", x.told(0, 5), 100);
        c.due("none told behind one told", Check.rocks(x, "pr,pr"), 2);
        c.due("none told: from", x.told(0, 4), 0);
        c.due("none told: until", x.told(0, 5), 0);
        c.due("from above until", Check.rocks(x, "prd99-0"), 1);
        c.due("is never dark", x.told(0, 6), 0);
    }

    /** "blanks are passed over, but end a number" */
    private static void blanksEndNumbers() {
        NineLamps x = new NineLamps();
        c.due("1 0 is two", Check.rocks(x, "prd1 0-5"), -25);
        c.due("0 0 is two", Check.rocks(x, "prd0 0-5"), -25);
        c.due("at the end", Check.rocks(x, "prd1-5 0"), -27);
        c.due("a blank ahead of what is too great", Check.rocks(x, "prd  100-5"), -25);
        c.due("10 0 is 10 and a fault", Check.rocks(x, "prd1-10 0"), -28);
        c.due("blanks all about", Check.rocks(x, "  p  r  d  12  -  34  ,  m  g  "), 2);
        c.due("from", x.told(0, 4), 12);
        c.due("until", x.told(0, 5), 34);
        c.due("blanks all about", Check.laws(x, "  r  0  s  r  ;  a  9  l  o  "), 2);
        c.due("the second", x.rule(1, 1), 9);
        c.due("blanks alone are no rule", Check.laws(x, " "), 0);
        c.due("blanks alone are no rocks: the end", Check.rocks(x, " "), -21);
    }

    /** "One letter more behind THE TAPE .. FULL: 160", "the end: how many were typed" */
    private static void fullTape() {
        NineLamps x = new NineLamps();
        c.due("160 blanks: laws", Check.laws(x, " ".repeat(160)), 0);
        c.due("160 blanks: rocks", Check.rocks(x, " ".repeat(160)), -180);
        x = new NineLamps();
        c.due("letter 160: laws", Check.laws(x, " ".repeat(159) + "x"), -179);
        c.due("letter 160: rocks", Check.rocks(x, " ".repeat(159) + "x"), -179);
        x = new NineLamps();
        c.due("the end behind it: laws", Check.laws(x, " ".repeat(159) + "r"), -180);
        c.due("the end behind it: rocks", Check.rocks(x, " ".repeat(159) + "p"), -180);
        x = new NineLamps();
        Check.type(x, " ".repeat(156) + "r1sr");
        c.due("161", x.type('x'), FULL);
        c.due("all of 160", x.laws(), 1);
        x = new NineLamps();
        Check.type(x, " ".repeat(151) + "prd99-100");
        c.due("161", x.type('0'), FULL);
        c.due("all of 160", x.rocks(), 1);
        c.due("until", x.told(0, 5), 100);
        c.due("nine in full", Check.rocks(x, "prd99-100" + ",prd99-100".repeat(8)), 9);
        c.due("the ninth", x.told(8, 5), 100);
    }

    /** "THE TAPE, which is empty then (whatever is answered)" */
    private static void emptyTapeThen() {
        NineLamps x = new NineLamps();
        c.due("a law", Check.laws(x, "r1sr"), 1);
        c.due("the first letter again", x.type('g'), 1);
        c.due("a fault", x.laws(), -21);
        c.due("the first letter again", x.type('p'), 1);
        c.due("the second", x.type('r'), 2);
        c.due("rocks", x.rocks(), 1);
        c.due("the first letter again", x.type('p'), 1);
        c.due("a fault", x.rocks(), -21);
        c.due("nothing typed: no rule", x.laws(), 0);
        c.due("nothing typed: a fault", x.rocks(), -20);
        c.due("the first letter again", x.type('p'), 1);
    }

    /** "in place of all ROCKS (all DELAYS 1, MINUTE 0, nothing is due, no MESSAGES, LOGS stay)" */
    private static void rocksInPlaceOfAll() {
        NineLamps x = Check.with("sr,sg,lr", "a0so;a0lo");
        for (int from = 0; from <= 2; from++) {
            for (int to = 0; to <= 2; to++) {
                x.delay(from, to, 9);
            }
        }
        x.log(0, 1, 0);
        x.log(0, 2, 1);
        x.night(60);
        x.turn(0, 0);
        Check.laws(x, "a0sr;a0sg");
        x.minute();
        c.due("nine in place of three", Check.rocks(x, NINE), 9);
        c.due("minute 0", x.count(2), 0);
        c.due("no messages", x.count(3), 0);
        c.due("nothing is due", x.count(7), 0);
        c.due("logs stay", x.count(4) * 10 + x.sure(), 21);
        c.due("the law stays", x.count(1), 2);
        for (int from = 0; from <= 8; from++) {
            c.due("shows none", x.told(from, 2), NO_COLOUR);
            c.due("said none", x.told(from, 3), NO_COLOUR);
            for (int to = 0; to <= 8; to++) {
                if (from != to) {
                    c.due("delay from " + from + " to " + to, x.delay(from, to, 2), 1);
                    c.due("heard of " + to, x.heard(from, to), NO_COLOUR);
                }
            }
        }
        c.due("one in place of nine", Check.rocks(x, "mg"), 1);
        c.due("1 is there no more", x.told(1, 0), BAD);
        c.due("let in again", x.rock(0, 0), 1);
        c.due("delays are 1", x.delay(0, 1, 1) * 10 + x.delay(1, 0, 1), 11);
    }

    /** "NONE: there is none", "All is as it was then" */
    private static void imageOfNothing() {
        NineLamps x = new NineLamps();
        c.due("none", x.restore(), NONE);
        c.due("of a new object", x.image(), 1);
        Check.rocks(x, "pr,pg");
        Check.laws(x, "a0so");
        x.log(0, 1, 0);
        x.lots(3);
        c.due("restore", x.restore(), 1);
        int[] counts = {0, 0, 0, 0, 0, 1, 0, 0};
        for (int what = 0; what <= 7; what++) {
            c.due("as new: count(" + what + ")", x.count(what), counts[what]);
        }
        c.due("the draw", x.seed(5), 1);
        c.due("restore once more", x.restore(), 1);
        c.due("the draw", x.seed(5), 1);
    }

    /** "All but SHEETS, THE TAPE is kept as an IMAGE" */
    private static void imageKeepsAllBut() {
        NineLamps x = Check.with("pr,sg,lr", "r1sr;g2bg;a3lo;r4so;g5br;a6lg;r7sr;a0so");
        for (int i = 0; i < 12; i++) {
            x.log(i % 9, (i + 1) % 9, i % 2);
        }
        x.sheet(0, 0, 5);
        Check.type(x, "r1");
        x.lots(2);
        x.image();
        String then = Check.all(x);
        x.sheet(0, 3, 7);
        Check.type(x, "s");
        x.burn();
        x.laws();
        Check.rocks(x, "mg");
        x.seed(3);
        Check.type(x, "g2");
        c.due("restore", x.restore(), 1);
        c.holds("all is as it was", then.equals(Check.all(x)));
        c.due("the tape is as it is", x.type('l'), 3);
        c.due("the sheet is as it is", x.item(0, 3, 6, 1), 1);
        c.due("the sheet has seven", x.drop(0), 7);
        c.due("the tape is read", x.laws(), -23);
        x.restore();
        c.due("a sheet that was dropped stays so", x.drop(0), NULL);
    }

    /** "sheets 0 .. 3: nothing (at first), or a row of a LANE: .. of 0 to 24 items" */
    private static void sheetsOfAllSizes() {
        NineLamps x = new NineLamps();
        for (int sheet = 0; sheet <= 3; sheet++) {
            c.due("nothing at first", x.drop(sheet), NULL);
        }
        for (int lane = 0; lane <= 3; lane++) {
            for (int n = 0; n <= 24; n++) {
                c.due("lane " + lane + " of " + n, x.sheet(n % 4, lane, n), n);
                c.due("the last item", x.item(n % 4, lane, n - 1, 1), n == 0 ? INDEX : 1);
                c.due("beyond it", x.item(n % 4, lane, n, 1), INDEX);
                c.due("of another lane", x.item(n % 4, (lane + 1) % 4, 0, 1), CAST);
                c.due("drop", x.drop(n % 4), n);
            }
        }
    }

    /** All nine on a sheet of 24: from 0 .. 15; of nine items: from 0 alone. */
    private static void nineOnASheet() {
        NineLamps x = Check.with(NINE, "");
        x.sheet(0, 3, 24);
        x.sheet(1, 3, 9);
        for (int i = 0; i < 24; i++) {
            x.item(0, 3, i, 1 + i % 9);
        }
        c.due("from 15", x.delays(0, 0, 3, 15), 9);
        for (int to = 1; to <= 8; to++) {
            c.due("item " + (15 + to), x.delay(0, to, 1), 1 + (15 + to) % 9);
        }
        c.due("from 16", x.delays(0, 0, 3, 16), INDEX);
        c.due("nine items are 0", x.delays(0, 1, 3, 0), NOT);
        c.due("nine come", x.copy(0, 15, 1, 0, 9), 9);
        c.due("of nine from 0", x.delays(8, 1, 3, 0), 9);
        c.due("the delay to 7", x.delay(8, 7, 1), 1 + 22 % 9);
        c.due("of nine from 1", x.delays(8, 1, 3, 1), INDEX);
        c.due("film from 15", x.film(0, 3, 15), 9);
        c.due("film from 16", x.film(0, 3, 16), INDEX);
        c.due("seen from 15", x.seen(0, 3, 15), 0);
        c.due("seen from 16", x.seen(0, 3, 16), INDEX);
        c.due("item 14 is not a 2: it stays 6", x.delays(1, 0, 3, 14), 9);
        c.due("item 14", x.delay(1, 0, 1), 6);
        c.due("all 24 come", x.copy(0, 0, 0, 0, 24), 24);
        c.due("not 25", x.copy(0, 0, 0, 0, 25), INDEX);
    }
}
