/**
 * Every argument of every call: the least and the greatest value that is taken, the nearest ones
 * that are refused, and the farthest; every other refusal; which comes first of several; and that
 * none of them changes anything (asked by Observed), but for the tape that laws and rocks empty.
 */
public final class RefusalsTest {
    private static final int BAD = -1, NOT = -2, FULL = -3, NONE = -4, NULL = -11, CAST = -12, INDEX = -13, SIZE = -14;
    private static final int LOW = Integer.MIN_VALUE, HIGH = Integer.MAX_VALUE;
    private static final Check c = new Check();

    private interface Start {
        NineLamps make();
    }

    private interface Call {
        int on(NineLamps x);
    }

    private interface CallOf {
        int on(NineLamps x, int v);
    }

    private final Start start;
    private final String untouched;

    private RefusalsTest(Start start) {
        this.start = start;
        untouched = Observed.of(start.make());
    }

    public static void main(String[] args) {
        observedSees();
        RefusalsTest lively = new RefusalsTest(RefusalsTest::lively);
        lively.rocksRanges();
        lively.lawsRanges();
        lively.nightsRanges();
        lively.logsRanges();
        lively.sheetsRanges();
        lively.rowRanges();
        lively.copyRanges();
        lively.sheetsInOrder();
        lively.delaysNot();
        full();
        lastMinutes();
        none();
        faults();
        c.end();
    }

    /**
     * Minute 3. 0 is plain and red, 1 a liar, green and dark, 2 slow and red; 0 and 2 show red, 0 heard
     * green of 1. To 1 red is due from 0 in a minute more than the next, from 2 in 15 more. 0 is sure.
     * There is an image of minute 1; sheet 2 holds nothing, the others a row of their own number's lane.
     */
    private static NineLamps lively() {
        NineLamps x = livelyWithoutTape();
        Check.type(x, "r3s");
        return x;
    }

    private static NineLamps livelyWithoutTape() {
        NineLamps x = new NineLamps();
        int[] sizes = {4, 5, -1, 3};
        for (int sheet = 0; sheet <= 3; sheet++) {
            x.sheet(sheet, sheet, sizes[sheet]);
            for (int i = 0; i < sizes[sheet]; i++) {
                x.item(sheet, sheet, i, 1 + (2 * sheet + i) % 9);
            }
        }
        Check.rocks(x, "pr,lg d2-9,sr");
        Check.laws(x, "a1so;r2br;g2bg;a3lo");
        x.delay(0, 1, 4);
        x.delay(2, 1, 9);
        x.log(0, 1, 0);
        x.log(0, 2, 1);
        x.log(1, 0, 1);
        x.seed(77);
        x.night(1);
        x.image();
        x.lots(2);
        x.delay(1, 0, 3);
        x.seed(78);
        return x;
    }

    /** Observed itself is of use only if it sees every change. */
    private static void observedSees() {
        String before = Observed.of(lively());
        Call[] changes = {
            x -> x.rock(0, 0), NineLamps::out, x -> x.turn(1, 2), x -> x.dark(2, 0, 1), x -> x.dark(1, 2, 8),
            x -> x.delay(0, 1, 5), x -> x.add(0, 1, 0, 0), x -> x.type(' '), NineLamps::laws, NineLamps::rocks,
            NineLamps::minute, x -> x.night(1), x -> x.lots(1), x -> x.seed(79), x -> x.log(2, 1, 1), NineLamps::burn,
            NineLamps::image, NineLamps::restore, x -> x.delays(0, 0, 0, 0), x -> x.film(3, 3, 0), x -> x.sheet(1, 1, 5),
            x -> x.sheet(0, 1, 4), x -> x.sheet(2, 0, 0), x -> x.drop(3), x -> x.item(1, 1, 4, 9), x -> x.item(3, 3, 0, 1),
            x -> x.copy(0, 0, 0, 1, 2),
        };
        for (int i = 0; i < changes.length; i++) {
            NineLamps x = lively();
            changes[i].on(x);
            c.holds("Observed sees change " + i, !before.equals(Observed.of(x)));
        }
        c.holds("Observed is the same of the same", before.equals(Observed.of(lively())));
    }

    private void refused(String what, Call call, int due) {
        NineLamps x = start.make();
        c.due(what, call.on(x), due);
        c.holds(what + ": nothing is changed", untouched.equals(Observed.of(x)));
    }

    private void taken(String what, Call call, int due) {
        c.due(what, call.on(start.make()), due);
    }

    /** The answers of the least and the greatest value; those beyond are refused. */
    private void range(String what, int least, int answer, int most, int answerOfMost, int refusal, CallOf call) {
        taken(what + ": " + least, x -> call.on(x, least), answer);
        taken(what + ": " + most, x -> call.on(x, most), answerOfMost);
        for (int v : new int[] {least - 1, most + 1, LOW, HIGH}) {
            refused(what + ": " + v, x -> call.on(x, v), refusal);
        }
    }

    private void bad(String what, int least, int answer, int most, int answerOfMost, CallOf call) {
        range(what, least, answer, most, answerOfMost, BAD, call);
    }

    private void rocksRanges() {
        bad("2 rock: kind", 0, 3, 5, 3, (x, v) -> x.rock(v, 0));
        bad("2 rock: colour", 0, 3, 1, 3, (x, v) -> x.rock(0, v));
        bad("4 turn: rock", 0, 0, 2, 3, (x, v) -> x.turn(v, 5));
        bad("4 turn: kind", 0, 1, 5, 1, (x, v) -> x.turn(1, v));
        bad("5 dark: rock", 0, 1, 2, 1, (x, v) -> x.dark(v, 3, 4));
        bad("5 dark: from", 0, 1, 99, 0, (x, v) -> x.dark(0, v, 100));
        bad("5 dark: until", 0, 0, 100, 1, (x, v) -> x.dark(0, 0, v));
        bad("6 delay: from", 0, 4, 2, 9, (x, v) -> x.delay(v, 1, 2));
        bad("6 delay: to", 0, 3, 2, 1, (x, v) -> x.delay(1, v, 2));
        bad("6 delay: minutes", 1, 4, 9, 4, (x, v) -> x.delay(0, 1, v));
        bad("7 told: rock", 0, 0, 2, 3, (x, v) -> x.told(v, 0));
        bad("7 told: what", 0, 0, 7, 1, (x, v) -> x.told(0, v));
        bad("8 heard: rock", 0, 1, 2, 0, (x, v) -> x.heard(v, 1));
        bad("8 heard: from", 0, 2, 2, 2, (x, v) -> x.heard(1, v));
        bad("9 counts: rock", 0, 3, 2, 3, (x, v) -> x.counts(v, 2));
        bad("9 counts: counted", 0, 2, 2, 3, (x, v) -> x.counts(0, v));
        bad("10 due: rock", 0, 2, 2, 2, (x, v) -> x.due(v, 1, 0));
        bad("10 due: from", 0, 0, 2, 2, (x, v) -> x.due(1, v, 1));
        bad("10 due: minutes", 0, 2, 18, 2, (x, v) -> x.due(1, 0, v));
        bad("16 count: what", 0, 3, 7, 2, (x, v) -> x.count(v));
        for (int rock = 0; rock <= 2; rock++) {
            int one = rock;
            refused("6 delay: one alike, " + rock, x -> x.delay(one, one, 5), BAD);
            refused("10 due: one alike, " + rock, x -> x.due(one, one, 0), BAD);
            refused("29 log: one alike, " + rock, x -> x.log(one, one, 0), BAD);
        }
    }

    private void lawsRanges() {
        bad("11 rule: which", 0, 0, 3, 2, (x, v) -> x.rule(v, 2));
        bad("11 rule: what", 0, 2, 3, 2, (x, v) -> x.rule(0, v));
        bad("12 add: counted", 0, 5, 2, 5, (x, v) -> x.add(v, 1, 0, 0));
        bad("12 add: number", 0, 5, 9, 5, (x, v) -> x.add(0, v, 0, 0));
        bad("12 add: act", 0, 5, 2, 5, (x, v) -> x.add(0, 1, v, 0));
        bad("12 add: colour", 0, 5, 2, 5, (x, v) -> x.add(0, 1, 0, v));
        bad("13 type: letter", 32, 4, 126, 4, (x, v) -> x.type(v));
    }

    private void nightsRanges() {
        bad("18 night: minutes", 1, 0, 60, 0, (x, v) -> x.night(v));
        bad("19 lots: minutes", 1, 0, 60, 0, (x, v) -> x.lots(v));
        taken("20 seed: 0", x -> x.seed(0), 78);
        taken("20 seed: greatest", x -> x.seed(HIGH), 78);
        refused("20 seed: -1", x -> x.seed(-1), BAD);
        refused("20 seed: farthest", x -> x.seed(LOW), BAD);
        bad("21 behind: rock", 0, 0, 2, 0, (x, v) -> x.behind(v, 0, 0));
        bad("21 behind: minutes", 0, 2, 60, 2, (x, v) -> x.behind(1, v, 0));
        bad("21 behind: what", 0, 2, 1, 1, (x, v) -> x.behind(1, 0, v));
        bad("22 when: what", 0, 0, 1, NONE, (x, v) -> x.when(v));
        bad("23 darkest: what", 0, 0, 1, 0, (x, v) -> x.darkest(v));
        bad("24 holds: set", 0, 1, 7, 1, (x, v) -> x.holds(v));
        bad("26 worst: what", 0, 1, 1, 0, (x, v) -> x.worst(v));
        bad("27 least: liars", 0, 0, 2, 0, (x, v) -> x.least(v, 60));
        bad("27 least: minutes", 0, 0, 60, 0, (x, v) -> x.least(0, v));
        Call[] trials = {
            x -> x.behind(1, 60, 0), x -> x.behind(0, 17, 1), x -> x.when(0), x -> x.when(1), x -> x.darkest(0),
            x -> x.darkest(1), x -> x.holds(0), x -> x.holds(7), NineLamps::bears, x -> x.worst(0), x -> x.worst(1),
            x -> x.least(2, 60), NineLamps::spare, NineLamps::sure, NineLamps::ask, x -> x.fits(3), x -> x.ship(7, 0),
            x -> x.seen(0, 0, 0), x -> x.told(1, 6), x -> x.counts(0, 2),
        };
        for (int i = 0; i < trials.length; i++) {
            NineLamps x = lively();
            trials[i].on(x);
            c.holds("21 to 28: question " + i + " changes nothing", untouched.equals(Observed.of(x)));
        }
    }

    private void logsRanges() {
        bad("29 log: from", 0, 4, 8, 4, (x, v) -> x.log(v, 4, 0));
        bad("29 log: to", 0, 4, 8, 4, (x, v) -> x.log(4, v, 0));
        bad("29 log: colour", 0, 4, 1, 4, (x, v) -> x.log(4, 5, v));
        bad("32 fits: how many", 0, 0, 9, 0, (x, v) -> x.fits(v));
        bad("34 ship: set", 0, NONE, 7, 0, (x, v) -> x.ship(v, 0));
        bad("34 ship: liars", 0, 0, 4, NONE, (x, v) -> x.ship(7, v));
    }

    private void sheetsRanges() {
        bad("37 delays: rock", 0, 3, 2, 3, (x, v) -> x.delays(v, 3, 3, 0));
        bad("37 delays: sheet", 0, 3, 3, CAST, (x, v) -> x.delays(0, v, 0, 0));
        bad("37 delays: lane", 0, 3, 3, CAST, (x, v) -> x.delays(0, 0, v, 0));
        bad("38 film: sheet", 0, 3, 3, CAST, (x, v) -> x.film(v, 0, 0));
        bad("38 film: lane", 0, 3, 3, CAST, (x, v) -> x.film(0, v, 0));
        bad("39 seen: sheet", 0, NONE, 3, CAST, (x, v) -> x.seen(v, 0, 0));
        bad("39 seen: lane", 0, NONE, 3, CAST, (x, v) -> x.seen(0, v, 0));
        bad("40 sheet: sheet", 0, 7, 3, 7, (x, v) -> x.sheet(v, 1, 7));
        bad("40 sheet: lane", 0, 7, 3, 7, (x, v) -> x.sheet(1, v, 7));
        taken("40 sheet: no item", x -> x.sheet(2, 0, 0), 0);
        taken("40 sheet: 24 items", x -> x.sheet(2, 0, 24), 24);
        refused("40 sheet: 25 items", x -> x.sheet(0, 0, 25), BAD);
        refused("40 sheet: the most items", x -> x.sheet(0, 0, HIGH), BAD);
        refused("40 sheet: -1 items", x -> x.sheet(0, 0, -1), SIZE);
        refused("40 sheet: the fewest items", x -> x.sheet(0, 0, LOW), SIZE);
        refused("40 sheet: -1 items where nothing is", x -> x.sheet(2, 0, -1), SIZE);
        bad("41 drop: sheet", 0, 4, 3, 3, (x, v) -> x.drop(v));
        refused("41 drop: nothing", x -> x.drop(2), NULL);
        bad("42 item: sheet", 0, 1, 3, CAST, (x, v) -> x.item(v, 0, 0, 1));
        bad("42 item: lane", 0, 1, 3, CAST, (x, v) -> x.item(0, v, 0, 1));
    }

    /** Sheet 0 has four items, and there are three rocks: a row of them begins at 0 or 1. */
    private void rowRanges() {
        range("37 delays: from", 0, 3, 1, 3, INDEX, (x, v) -> x.delays(0, 0, 0, v));
        range("38 film: from", 0, 3, 1, 3, INDEX, (x, v) -> x.film(0, 0, v));
        range("39 seen: from", 0, NONE, 1, NONE, INDEX, (x, v) -> x.seen(0, 0, v));
        range("42 item: which", 0, 1, 3, 1, INDEX, (x, v) -> x.item(0, 0, v, 1));
        RefusalsTest rockless = new RefusalsTest(() -> {
            NineLamps x = lively();
            x.out();
            x.out();
            x.out();
            return x;
        });
        rockless.range("38 film of none: from", 0, 0, 4, 0, INDEX, (x, v) -> x.film(0, 0, v));
        rockless.range("39 seen of none: from", 0, 0, 4, 0, INDEX, (x, v) -> x.seen(0, 0, v));
        rockless.refused("37 delays of none", x -> x.delays(0, 0, 0, 0), BAD);
        rockless.refused("3 out of none", NineLamps::out, NONE);
    }

    private void copyRanges() {
        bad("43 copy: from", 0, 1, 3, CAST, (x, v) -> x.copy(v, 0, 0, 0, 1));
        bad("43 copy: to", 0, 1, 3, CAST, (x, v) -> x.copy(0, 0, v, 0, 1));
        range("43 copy: i", 0, 1, 3, 1, INDEX, (x, v) -> x.copy(0, v, 0, 0, 1));
        range("43 copy: j", 0, 1, 3, 1, INDEX, (x, v) -> x.copy(0, 0, 0, v, 1));
        range("43 copy: i of two", 0, 2, 2, 2, INDEX, (x, v) -> x.copy(0, v, 0, 0, 2));
        range("43 copy: j of two", 0, 2, 2, 2, INDEX, (x, v) -> x.copy(0, 0, 0, v, 2));
        range("43 copy: i of none", 0, 0, 4, 0, INDEX, (x, v) -> x.copy(0, v, 0, 0, 0));
        range("43 copy: j of none", 0, 0, 4, 0, INDEX, (x, v) -> x.copy(0, 0, 0, v, 0));
        range("43 copy: n", 0, 0, 4, 4, INDEX, (x, v) -> x.copy(0, 0, 0, 0, v));
        range("43 copy: n from i on", 0, 0, 3, 3, INDEX, (x, v) -> x.copy(0, 1, 0, 0, v));
        range("43 copy: n from j on", 0, 0, 1, 1, INDEX, (x, v) -> x.copy(0, 0, 0, 3, v));
        refused("43 copy: all the most", x -> x.copy(0, HIGH, 0, HIGH, HIGH), INDEX);
        refused("43 copy: all the least", x -> x.copy(0, LOW, 0, LOW, LOW), INDEX);
        refused("43 copy: i 1 and the most", x -> x.copy(0, 1, 0, 0, HIGH), INDEX);
    }

    /** Where several refusals would fit, the one that the call names first. */
    private void sheetsInOrder() {
        refused("37 BAD ahead of NULL: rock", x -> x.delays(3, 2, 0, -1), BAD);
        refused("37 BAD ahead of NULL: lane", x -> x.delays(0, 2, 4, -1), BAD);
        refused("37 BAD ahead of CAST", x -> x.delays(3, 0, 1, 0), BAD);
        refused("37 BAD ahead of INDEX", x -> x.delays(3, 0, 0, -1), BAD);
        refused("37 NULL ahead of INDEX", x -> x.delays(0, 2, 2, -1), NULL);
        refused("37 CAST ahead of INDEX", x -> x.delays(0, 0, 1, -1), CAST);
        refused("38 BAD ahead of NULL", x -> x.film(2, 4, -1), BAD);
        refused("38 BAD ahead of CAST and INDEX", x -> x.film(0, -1, -1), BAD);
        refused("38 NULL ahead of INDEX", x -> x.film(2, 2, -1), NULL);
        refused("38 CAST ahead of INDEX", x -> x.film(0, 1, -1), CAST);
        refused("39 BAD ahead of NULL", x -> x.seen(2, 4, -1), BAD);
        refused("39 BAD ahead of CAST and INDEX", x -> x.seen(0, -1, -1), BAD);
        refused("39 NULL ahead of INDEX", x -> x.seen(2, 2, -1), NULL);
        refused("39 CAST ahead of INDEX", x -> x.seen(0, 1, -1), CAST);
        refused("39 NONE", x -> x.seen(0, 0, 0), NONE);
        refused("40 BAD ahead of SIZE: sheet", x -> x.sheet(4, 0, -1), BAD);
        refused("40 BAD ahead of SIZE: lane", x -> x.sheet(0, 4, -1), BAD);
        refused("42 BAD ahead of NULL", x -> x.item(2, 4, -1, 1), BAD);
        refused("42 BAD ahead of CAST and INDEX", x -> x.item(0, -1, -1, 1), BAD);
        refused("42 NULL ahead of INDEX", x -> x.item(2, 2, -1, 1), NULL);
        refused("42 CAST ahead of INDEX", x -> x.item(0, 1, -1, 1), CAST);
        refused("43 BAD ahead of NULL: to", x -> x.copy(2, 0, 4, 0, -1), BAD);
        refused("43 BAD ahead of NULL: from", x -> x.copy(-1, 0, 2, 0, -1), BAD);
        refused("43 NULL: from", x -> x.copy(2, -1, 0, -1, -1), NULL);
        refused("43 NULL: to", x -> x.copy(0, -1, 2, -1, -1), NULL);
        refused("43 NULL: both", x -> x.copy(2, 0, 2, 0, 0), NULL);
        refused("43 CAST ahead of INDEX", x -> x.copy(0, -1, 1, -1, -1), CAST);
        refused("43 CAST of none", x -> x.copy(0, 0, 1, 0, 0), CAST);
    }

    private static NineLamps withItem(int i, long v) {
        NineLamps x = lively();
        x.item(3, 3, i, v);
        return x;
    }

    /** Each item but the rock's own may be 1 .. 9; if one is not, none is taken. */
    private void delaysNot() {
        for (int i = 0; i <= 2; i++) {
            int at = i, another = (i + 1) % 3;
            for (long v : new long[] {0, 10, -1, 256 + 5, (1L << 32) + 5, Long.MIN_VALUE + 5, Long.MAX_VALUE}) {
                RefusalsTest t = new RefusalsTest(() -> withItem(at, v));
                t.refused("37 NOT: " + v + " to " + i, x -> x.delays(another, 3, 3, 0), NOT);
                t.taken("37 its own item " + v, x -> x.delays(at, 3, 3, 0), 3);
                t.refused("37 INDEX ahead of NOT", x -> x.delays(another, 3, 3, 1), INDEX);
                t.refused("37 CAST ahead of NOT", x -> x.delays(another, 3, 2, 0), CAST);
            }
            for (int v : new int[] {1, 9}) {
                NineLamps x = withItem(i, v);
                c.due("37 taken: " + v + " to " + i, x.delays(another, 3, 3, 0), 3);
                c.due("37 is the delay: " + v + " to " + i, Check.delay(x, another, i), v);
            }
        }
    }

    private static void full() {
        RefusalsTest nine = new RefusalsTest(() -> Check.with("pr,lg,er,sg,tr,mg,pr,pg,pr", "a0so"));
        nine.refused("2 FULL: a tenth rock", x -> x.rock(0, 0), FULL);
        nine.refused("2 BAD ahead of FULL: kind", x -> x.rock(6, 0), BAD);
        nine.refused("2 BAD ahead of FULL: colour", x -> x.rock(0, 2), BAD);
        nine.taken("3 of nine", NineLamps::out, 8);
        RefusalsTest eight = new RefusalsTest(() -> Check.with("pr,pg", "r1sr;g2bg;a3lo;r4so;g5br;a6lg;r7sr;g8bg"));
        eight.refused("12 FULL: a ninth rule", x -> x.add(0, 0, 0, 0), FULL);
        eight.refused("12 BAD ahead of FULL: counted", x -> x.add(3, 0, 0, 0), BAD);
        eight.refused("12 BAD ahead of FULL: number", x -> x.add(0, 10, 0, 0), BAD);
        eight.refused("12 BAD ahead of FULL: act", x -> x.add(0, 0, -1, 0), BAD);
        eight.refused("12 BAD ahead of FULL: colour", x -> x.add(0, 0, 0, 3), BAD);
        RefusalsTest typed = new RefusalsTest(() -> {
            NineLamps x = Check.with("pr,pg", "a0so");
            Check.type(x, "a1so;".repeat(32));
            return x;
        });
        typed.refused("13 FULL: letter 161", x -> x.type(' '), FULL);
        typed.refused("13 BAD ahead of FULL: 31", x -> x.type(31), BAD);
        typed.refused("13 BAD ahead of FULL: 127", x -> x.type(127), BAD);
        RefusalsTest logs = new RefusalsTest(() -> {
            NineLamps x = Check.with("pr,pg", "a0so");
            for (int i = 0; i < 12; i++) {
                x.log(i % 9, (i + 4) % 9, 0);
            }
            return x;
        });
        logs.refused("29 FULL: a thirteenth log", x -> x.log(1, 0, 1), FULL);
        logs.refused("29 BAD ahead of FULL: from", x -> x.log(9, 0, 1), BAD);
        logs.refused("29 BAD ahead of FULL: to", x -> x.log(0, -1, 1), BAD);
        logs.refused("29 BAD ahead of FULL: alike", x -> x.log(8, 8, 1), BAD);
        logs.refused("29 BAD ahead of FULL: colour", x -> x.log(1, 0, 2), BAD);
        logs.taken("30 twelve", NineLamps::burn, 12);
    }

    /** Two rocks that say red and green in each minute: four messages. */
    private static NineLamps atMinute(int minute) {
        NineLamps x = Check.with("pr,pg", "a0sr;a0sg");
        for (int i = 0; i < minute / 60; i++) {
            x.night(60);
        }
        if (minute % 60 != 0) {
            x.night(minute % 60);
        }
        c.due("18 minute " + minute, x.count(2), minute);
        return x;
    }

    private static void lastMinutes() {
        RefusalsTest late = new RefusalsTest(() -> atMinute(940));
        late.taken("18 night(59) up to 999", x -> x.night(59), 236);
        late.taken("19 lots(59) up to 999", x -> x.lots(59), 236);
        late.refused("18 FULL: night(60) from 940", x -> x.night(60), FULL);
        late.refused("19 FULL: lots(60) from 940", x -> x.lots(60), FULL);
        late.refused("18 BAD ahead of FULL", x -> x.night(61), BAD);
        late.refused("19 BAD ahead of FULL", x -> x.lots(61), BAD);
        RefusalsTest later = new RefusalsTest(() -> atMinute(998));
        later.taken("17 minute 998", NineLamps::minute, 4);
        later.taken("18 minute 998", x -> x.night(1), 4);
        later.taken("19 minute 998", x -> x.lots(1), 4);
        later.refused("18 FULL: two from 998", x -> x.night(2), FULL);
        later.refused("19 FULL: two from 998", x -> x.lots(2), FULL);
        RefusalsTest last = new RefusalsTest(() -> atMinute(999));
        last.refused("17 FULL: minute 999", NineLamps::minute, FULL);
        last.refused("18 FULL: minute 999", x -> x.night(1), FULL);
        last.refused("19 FULL: minute 999", x -> x.lots(1), FULL);
        last.refused("18 BAD ahead of FULL: 0", x -> x.night(0), BAD);
        last.refused("19 BAD ahead of FULL: 0", x -> x.lots(0), BAD);
    }

    private static void none() {
        RefusalsTest fresh = new RefusalsTest(NineLamps::new);
        fresh.refused("3 NONE", NineLamps::out, NONE);
        fresh.refused("23 NONE", x -> x.darkest(0), NONE);
        fresh.refused("23 NONE", x -> x.darkest(1), NONE);
        fresh.refused("23 BAD ahead of NONE", x -> x.darkest(2), BAD);
        fresh.refused("23 BAD ahead of NONE", x -> x.darkest(-1), BAD);
        fresh.refused("26 NONE", x -> x.worst(0), NONE);
        fresh.refused("26 BAD ahead of NONE", x -> x.worst(2), BAD);
        fresh.refused("26 BAD ahead of NONE", x -> x.worst(-1), BAD);
        fresh.refused("24 BAD: of no rock", x -> x.holds(1), BAD);
        fresh.refused("34 BAD ahead of NONE: of no rock", x -> x.ship(1, 0), BAD);
        fresh.refused("34 BAD ahead of NONE: f", x -> x.ship(0, 5), BAD);
        fresh.refused("34 NONE", x -> x.ship(0, 0), NONE);
        fresh.refused("33 NONE", NineLamps::ask, NONE);
        fresh.refused("36 NONE", NineLamps::restore, NONE);
        fresh.refused("22 NONE", x -> x.when(1), NONE);
        RefusalsTest one = new RefusalsTest(() -> Check.with("pr", "g1lg"));
        one.refused("26 NONE: one rock", x -> x.worst(0), NONE);
        one.refused("26 NONE: one rock", x -> x.worst(1), NONE);
        one.refused("26 BAD ahead of NONE: one rock", x -> x.worst(2), BAD);
        one.taken("23 one rock", x -> x.darkest(0), 0);
        one.refused("22 NONE: never done", x -> x.when(0), NONE);
        one.refused("22 NONE: never unlike", x -> x.when(1), NONE);
        RefusalsTest two = new RefusalsTest(() -> Check.with("pr,pg", "a0lo"));
        two.taken("26 two rocks", x -> x.worst(0), 1);
        two.refused("25 NONE: unlike", NineLamps::bears, NONE);
        two.refused("27 NONE: unlike", x -> x.least(0, 60), NONE);
        two.refused("27 BAD ahead of NONE: liars", x -> x.least(3, 60), BAD);
        two.refused("27 BAD ahead of NONE: minutes", x -> x.least(0, 61), BAD);
        two.refused("34 NONE: none shown", x -> x.ship(3, 0), NONE);
    }

    /** What is refused as a text is gone from the tape, and nothing else is changed. */
    private static void faults() {
        RefusalsTest t = new RefusalsTest(RefusalsTest::livelyWithoutTape);
        for (String text : new String[] {"x", "a1so;g2lr;", "r1sr;r1sx", "a1so;".repeat(8) + "a1so"}) {
            t.refused("14 a fault of '" + text + "'", x -> asFault(Check.laws(x, text)), 1);
        }
        for (String text : new String[] {"", "x", "pr,lg,", "pg,pg,pg,px", "sg d5-6, lr d100-1", "pg,".repeat(9) + "pg"}) {
            t.refused("15 a fault of '" + text + "'", x -> asFault(Check.rocks(x, text)), 1);
        }
    }

    private static int asFault(int answer) {
        return answer <= -20 ? 1 : answer;
    }
}
