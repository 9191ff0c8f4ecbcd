import java.util.Arrays;

/**
 * Rocks with lamps that shall all show one colour and hear one another late. What each call
 * does is told by the document's promises; README.md has an example.
 *
 * Every row is made by the constructor and used again, so that no later call makes an object.
 */
public final class NineLamps {
    public static final int BAD = -1, NOT = -2, FULL = -3, NONE = -4, NULL = -11, CAST = -12, INDEX = -13, SIZE = -14;

    private static final int MOST_ROCKS = 9, MOST_RULES = 8, MOST_LOGS = 12, MOST_LETTERS = 160;
    private static final int SHEETS = 4, LANES = 4, MOST_ITEMS = 24;
    private static final int LAST_MINUTE = 999, MOST_MESSAGES = 999999, MOST_AT_ONCE = 60;
    private static final int AHEAD = 60, NEVER = 61;
    private static final int DARK_FROM_MOST = 99, DARK_UNTIL_MOST = 100;
    private static final int DELAY_MOST = 9, DUE_MOST = 18, NUMBER_MOST = 9;
    private static final int RED = 0, GREEN = 1, NO_COLOUR = 2;
    private static final int PLAIN = 0, LIAR = 1, ECHO = 2, SLOW = 3, TWISTER = 4, MUTE = 5;
    private static final int OWN = 2, ALL = 2;
    private static final int SAY = 0, BELIEVE = 1, SHOW = 2;
    private static final int FAULT = -20;

    private final State now = new State();
    private final State kept = new State();
    private boolean isKept = false;
    private final Trials trials;
    private final Tape tape = new Tape();
    private final Sheet[] sheets = new Sheet[SHEETS];

    public NineLamps() {
        trials = new Trials(now.night, now.law);
        for (int i = 0; i < SHEETS; i++) {
            sheets[i] = new Sheet();
        }
    }

    // ---- 1 rocks, laws

    public int rock(int kind, int colour) {
        if (!within(kind, PLAIN, MUTE) || !within(colour, RED, GREEN)) {
            return BAD;
        }
        if (now.night.rocks >= MOST_ROCKS) {
            return FULL;
        }
        return now.night.letIn(kind, colour);
    }

    public int out() {
        if (now.night.rocks == 0) {
            return NONE;
        }
        return now.night.takeOut();
    }

    public int turn(int rock, int kind) {
        if (!isRock(rock) || !within(kind, PLAIN, MUTE)) {
            return BAD;
        }
        int before = now.night.kind[rock];
        now.night.kind[rock] = kind;
        return before;
    }

    public int dark(int rock, int from, int until) {
        if (!isRock(rock) || !within(from, 0, DARK_FROM_MOST) || !within(until, 0, DARK_UNTIL_MOST)) {
            return BAD;
        }
        now.night.darkFrom[rock] = from;
        now.night.darkUntil[rock] = until;
        return asNumber(now.night.isDark(rock));
    }

    public int delay(int a, int b, int v) {
        if (!isPair(a, b) || !within(v, 1, DELAY_MOST)) {
            return BAD;
        }
        int before = now.night.delay[a][b];
        now.night.delay[a][b] = v;
        return before;
    }

    public int told(int rock, int what) {
        if (!isRock(rock)) {
            return BAD;
        }
        Night night = now.night;
        switch (what) {
            case 0: return night.kind[rock];
            case 1: return night.believed(rock);
            case 2: return night.shows[rock];
            case 3: return night.said[rock];
            case 4: return night.darkFrom[rock];
            case 5: return night.darkUntil[rock];
            case 6: return asNumber(night.isDark(rock));
            case 7: return asNumber(night.isTrue(rock));
            default: return BAD;
        }
    }

    public int heard(int rock, int from) {
        if (!isRock(rock) || !isRock(from)) {
            return BAD;
        }
        return now.night.colourOf(rock, from);
    }

    public int counts(int rock, int counted) {
        if (!isRock(rock) || !within(counted, RED, ALL)) {
            return BAD;
        }
        return now.night.counted(rock, counted);
    }

    public int due(int rock, int from, int minutes) {
        if (!isPair(rock, from) || !within(minutes, 0, DUE_MOST)) {
            return BAD;
        }
        return now.night.waiting(rock, from, minutes);
    }

    public int rule(int i, int what) {
        if (!within(i, 0, now.law.size - 1)) {
            return BAD;
        }
        switch (what) {
            case 0: return now.law.counted[i];
            case 1: return now.law.number[i];
            case 2: return now.law.act[i];
            case 3: return now.law.colour[i];
            default: return BAD;
        }
    }

    public int add(int counted, int n, int act, int colour) {
        if (!within(counted, RED, ALL) || !within(n, 0, NUMBER_MOST) || !within(act, SAY, SHOW) || !within(colour, RED, OWN)) {
            return BAD;
        }
        if (now.law.size >= MOST_RULES) {
            return FULL;
        }
        return now.law.append(counted, n, act, colour);
    }

    public int type(int letter) {
        if (!within(letter, 32, 126)) {
            return BAD;
        }
        if (tape.size >= MOST_LETTERS) {
            return FULL;
        }
        return tape.append(letter);
    }

    public int laws() {
        int answer = tape.readLaw();
        tape.size = 0;
        if (answer >= 0) {
            now.law.become(tape.law);
        }
        return answer;
    }

    public int rocks() {
        int answer = tape.readRocks();
        tape.size = 0;
        if (answer >= 0) {
            now.night.beginAnew();
            for (int i = 0; i < answer; i++) {
                int rock = now.night.letIn(tape.kind[i], tape.colour[i]);
                now.night.darkFrom[rock] = tape.darkFrom[i];
                now.night.darkUntil[rock] = tape.darkUntil[i];
            }
        }
        return answer;
    }

    public int count(int what) {
        switch (what) {
            case 0: return now.night.rocks;
            case 1: return now.law.size;
            case 2: return now.night.minutes;
            case 3: return now.night.messages;
            case 4: return now.logs.size;
            case 5: return asNumber(now.night.isDone(0));
            case 6: return asNumber(now.night.isUnlike());
            case 7: return now.night.allWaiting();
            default: return BAD;
        }
    }

    // ---- 2 nights

    public int minute() {
        return now.night.minutes >= LAST_MINUTE ? FULL : now.night.pass(now.law, false);
    }

    public int night(int n) {
        return passMinutes(n, false);
    }

    public int lots(int n) {
        return passMinutes(n, true);
    }

    public int seed(int v) {
        if (v < 0) {
            return BAD;
        }
        int before = now.night.draw;
        now.night.draw = v;
        return before;
    }

    public int behind(int rock, int n, int what) {
        if (!isRock(rock) || !within(n, 0, AHEAD) || !within(what, 0, 1)) {
            return BAD;
        }
        Night later = trials.later(n);
        return what == 0 ? later.shows[rock] : later.believed(rock);
    }

    public int when(int what) {
        if (!within(what, 0, 1)) {
            return BAD;
        }
        int minutes = what == 0 ? trials.doneFromNow() : trials.unlikeWith(0);
        return minutes == NEVER ? NONE : minutes;
    }

    public int darkest(int what) {
        if (!within(what, 0, 1)) {
            return BAD;
        }
        if (now.night.rocks == 0) {
            return NONE;
        }
        trials.findDarkest();
        return what == 0 ? trials.found : trials.foundMinutes;
    }

    public int holds(int set) {
        if (!isSet(set)) {
            return BAD;
        }
        return asNumber(trials.unlikeWith(set) == NEVER);
    }

    public int bears() {
        int most = trials.mostBorne();
        return most < 0 ? NONE : most;
    }

    public int worst(int what) {
        if (!within(what, 0, 1)) {
            return BAD;
        }
        if (now.night.rocks < 2) {
            return NONE;
        }
        trials.findWorst();
        return what == 0 ? trials.found : trials.foundMinutes;
    }

    public int least(int k, int m) {
        if (!within(k, 0, 2) || !within(m, 0, AHEAD)) {
            return BAD;
        }
        return trials.leastNumber(k, m);
    }

    public int spare() {
        return trials.spareRules();
    }

    // ---- 3 logs, ships

    public int log(int from, int to, int colour) {
        if (!within(from, 0, 8) || !within(to, 0, 8) || from == to || !within(colour, RED, GREEN)) {
            return BAD;
        }
        if (now.logs.size >= MOST_LOGS) {
            return FULL;
        }
        return now.logs.append(from, to, colour);
    }

    public int burn() {
        int before = now.logs.size;
        now.logs.size = 0;
        return before;
    }

    public int sure() {
        return now.logs.sureLiars();
    }

    public int fits(int k) {
        if (!within(k, 0, 9)) {
            return BAD;
        }
        int liars = now.logs.sureLiars();
        if (!isSet(liars)) {
            return 0;
        }
        int known = Integer.bitCount(liars);
        return choose(now.night.rocks - known, k - known);
    }

    public int ask() {
        return now.logs.pairToAsk(now.night.rocks);
    }

    public int ship(int set, int f) {
        if (!isSet(set) || !within(f, 0, 4)) {
            return BAD;
        }
        int red = now.night.howManyShow(set, RED);
        int green = now.night.howManyShow(set, GREEN);
        if (red > f && green <= f) {
            return RED;
        }
        return green > f && red <= f ? GREEN : NONE;
    }

    public int image() {
        kept.become(now);
        isKept = true;
        return 1;
    }

    public int restore() {
        if (!isKept) {
            return NONE;
        }
        now.become(kept);
        return 1;
    }

    // ---- 4 sheets

    public int delays(int rock, int sheet, int lane, int from) {
        if (!isRock(rock)) {
            return BAD;
        }
        int refusal = refusalOfRow(sheet, lane, from, now.night.rocks);
        if (refusal != 0) {
            return refusal;
        }
        long[] items = sheets[sheet].items;
        for (int to = 0; to < now.night.rocks; to++) {
            long v = items[from + to];
            if (to != rock && (v < 1 || v > DELAY_MOST)) {
                return NOT;
            }
        }
        for (int to = 0; to < now.night.rocks; to++) {
            if (to != rock) {
                now.night.delay[rock][to] = (int) items[from + to];
            }
        }
        return now.night.rocks;
    }

    public int film(int sheet, int lane, int from) {
        int refusal = refusalOfRow(sheet, lane, from, now.night.rocks);
        if (refusal != 0) {
            return refusal;
        }
        for (int rock = 0; rock < now.night.rocks; rock++) {
            sheets[sheet].items[from + rock] = now.night.shows[rock];
        }
        return now.night.rocks;
    }

    public int seen(int sheet, int lane, int from) {
        int refusal = refusalOfRow(sheet, lane, from, now.night.rocks);
        if (refusal != 0) {
            return refusal;
        }
        int minutes = trials.shownFromNow(sheets[sheet].items, from);
        return minutes == NEVER ? NONE : minutes;
    }

    public int sheet(int sheet, int lane, int n) {
        if (!within(sheet, 0, SHEETS - 1) || !within(lane, 0, LANES - 1) || n > MOST_ITEMS) {
            return BAD;
        }
        if (n < 0) {
            return SIZE;
        }
        sheets[sheet].renew(lane, n);
        return n;
    }

    public int drop(int sheet) {
        if (!within(sheet, 0, SHEETS - 1)) {
            return BAD;
        }
        if (!sheets[sheet].isThere) {
            return NULL;
        }
        sheets[sheet].isThere = false;
        return sheets[sheet].size;
    }

    public int item(int sheet, int lane, int i, long v) {
        int refusal = refusalOfRow(sheet, lane, i, 1);
        if (refusal != 0) {
            return refusal;
        }
        sheets[sheet].put(i, v);
        return 1;
    }

    public int copy(int from, int i, int to, int j, int n) {
        if (!within(from, 0, SHEETS - 1) || !within(to, 0, SHEETS - 1)) {
            return BAD;
        }
        Sheet source = sheets[from];
        Sheet target = sheets[to];
        if (!source.isThere || !target.isThere) {
            return NULL;
        }
        if (source.lane != target.lane) {
            return CAST;
        }
        if (!source.hasRow(i, n) || !target.hasRow(j, n)) {
            return INDEX;
        }
        System.arraycopy(source.items, i, target.items, j, n);
        return n;
    }

    // ---- what several calls need

    private static boolean within(int v, int least, int most) {
        return v >= least && v <= most;
    }

    private static int asNumber(boolean yes) {
        return yes ? 1 : 0;
    }

    private boolean isRock(int rock) {
        return within(rock, 0, now.night.rocks - 1);
    }

    private boolean isPair(int a, int b) {
        return isRock(a) && isRock(b) && a != b;
    }

    private boolean isSet(int set) {
        return within(set, 0, (1 << now.night.rocks) - 1);
    }

    private int passMinutes(int n, boolean byLots) {
        if (!within(n, 1, MOST_AT_ONCE)) {
            return BAD;
        }
        if (now.night.minutes + n > LAST_MINUTE) {
            return FULL;
        }
        int sent = 0;
        for (int i = 0; i < n; i++) {
            sent += now.night.pass(now.law, byLots);
        }
        return sent;
    }

    /** The refusal of n items of a sheet from one on, taken as a row of a lane; 0, if there is none. */
    private int refusalOfRow(int sheet, int lane, int from, int n) {
        if (!within(sheet, 0, SHEETS - 1) || !within(lane, 0, LANES - 1)) {
            return BAD;
        }
        if (!sheets[sheet].isThere) {
            return NULL;
        }
        if (sheets[sheet].lane != lane) {
            return CAST;
        }
        return sheets[sheet].hasRow(from, n) ? 0 : INDEX;
    }

    private static int choose(int n, int k) {
        if (k < 0 || k > n) {
            return 0;
        }
        int ways = 1;
        for (int i = 1; i <= k; i++) {
            ways = ways * (n - k + i) / i;
        }
        return ways;
    }

    /** All that an image keeps. */
    private static final class State {
        final Night night = new Night();
        final Law law = new Law();
        final Logs logs = new Logs();

        void become(State other) {
            night.become(other.night);
            law.become(other.law);
            logs.become(other.logs);
        }
    }

    private static final class Law {
        int size = 0;
        final int[] counted = new int[MOST_RULES];
        final int[] number = new int[MOST_RULES];
        final int[] act = new int[MOST_RULES];
        final int[] colour = new int[MOST_RULES];

        int append(int newCounted, int newNumber, int newAct, int newColour) {
            counted[size] = newCounted;
            number[size] = newNumber;
            act[size] = newAct;
            colour[size] = newColour;
            size++;
            return size;
        }

        void become(Law other) {
            becomeWithout(other, -1);
        }

        void becomeWithNumber(Law other, int n) {
            become(other);
            Arrays.fill(number, n);
        }

        void becomeWithout(Law other, int left) {
            size = 0;
            for (int i = 0; i < other.size; i++) {
                if (i != left) {
                    append(other.counted[i], other.number[i], other.act[i], other.colour[i]);
                }
            }
        }
    }

    /**
     * The rocks and what is on its way between them. Sets of rocks are bits, so that a count is a
     * bitCount and what comes in a minute is heard by a few operations, however many trials ask.
     */
    private static final class Night {
        /** The longest delay, and the minute itself, so that nothing sent meets what comes now. */
        static final int SLOTS = 19;

        int rocks = 0;
        int minutes = 0;
        int messages = 0;
        int draw = 1;
        /** The slot of what is due in the next minute. Minutes can't tell it: they stay at 999. */
        int hand = 0;
        /** Rocks that a trial keeps dark in all minutes, as no from and until of a rock could. */
        int blackout = 0;
        /** Whether a rule changed anything in the last minute. */
        boolean stirred = false;
        final int[] kind = new int[MOST_ROCKS];
        final int[] shows = new int[MOST_ROCKS];
        final int[] said = new int[MOST_ROCKS];
        final int[] darkFrom = new int[MOST_ROCKS];
        final int[] darkUntil = new int[MOST_ROCKS];
        final int[][] delay = new int[MOST_ROCKS][MOST_ROCKS];
        /** By colour and rock: of whom it has that colour. Its own bit is what it believes. */
        final int[][] has = new int[2][MOST_ROCKS];
        /** By colour and ringPlace: from whom that colour is due. */
        final int[][] ring = new int[2][SLOTS * MOST_ROCKS];

        private static int ringPlace(int slot, int rock) {
            return slot * MOST_ROCKS + rock;
        }

        void become(Night other) {
            rocks = other.rocks;
            minutes = other.minutes;
            messages = other.messages;
            draw = other.draw;
            hand = other.hand;
            blackout = other.blackout;
            stirred = other.stirred;
            System.arraycopy(other.kind, 0, kind, 0, MOST_ROCKS);
            System.arraycopy(other.shows, 0, shows, 0, MOST_ROCKS);
            System.arraycopy(other.said, 0, said, 0, MOST_ROCKS);
            System.arraycopy(other.darkFrom, 0, darkFrom, 0, MOST_ROCKS);
            System.arraycopy(other.darkUntil, 0, darkUntil, 0, MOST_ROCKS);
            for (int rock = 0; rock < MOST_ROCKS; rock++) {
                System.arraycopy(other.delay[rock], 0, delay[rock], 0, MOST_ROCKS);
            }
            for (int colour = RED; colour <= GREEN; colour++) {
                System.arraycopy(other.has[colour], 0, has[colour], 0, MOST_ROCKS);
                System.arraycopy(other.ring[colour], 0, ring[colour], 0, SLOTS * MOST_ROCKS);
            }
        }

        /** No rock, minute 0, nothing due; the draw stays, as no text tells it. */
        void beginAnew() {
            rocks = 0;
            minutes = 0;
            messages = 0;
            Arrays.fill(ring[RED], 0);
            Arrays.fill(ring[GREEN], 0);
        }

        int letIn(int newKind, int colour) {
            int rock = rocks;
            kind[rock] = newKind;
            shows[rock] = NO_COLOUR;
            said[rock] = NO_COLOUR;
            darkFrom[rock] = 0;
            darkUntil[rock] = 0;
            has[colour][rock] = 1 << rock;
            has[1 - colour][rock] = 0;
            for (int other = 0; other < rock; other++) {
                delay[rock][other] = 1;
                delay[other][rock] = 1;
            }
            rocks++;
            return rock;
        }

        int takeOut() {
            rocks--;
            int others = ~(1 << rocks);
            for (int colour = RED; colour <= GREEN; colour++) {
                for (int rock = 0; rock < MOST_ROCKS; rock++) {
                    has[colour][rock] &= others;
                }
                for (int place = 0; place < SLOTS * MOST_ROCKS; place++) {
                    ring[colour][place] &= others;
                }
                for (int slot = 0; slot < SLOTS; slot++) {
                    ring[colour][ringPlace(slot, rocks)] = 0;
                }
            }
            return rocks;
        }

        boolean isDark(int rock) {
            return (blackout >> rock & 1) != 0 || darkFrom[rock] <= minutes && minutes < darkUntil[rock];
        }

        boolean isTrue(int rock) {
            return kind[rock] == PLAIN || kind[rock] == SLOW;
        }

        int believed(int rock) {
            return has[GREEN][rock] >> rock & 1;
        }

        int colourOf(int rock, int from) {
            return bitColour(has[RED][rock], has[GREEN][rock], from);
        }

        int waiting(int rock, int from, int fromNow) {
            int place = ringPlace((hand + fromNow) % SLOTS, rock);
            return bitColour(ring[RED][place], ring[GREEN][place], from);
        }

        private static int bitColour(int red, int green, int rock) {
            if ((red >> rock & 1) != 0) {
                return RED;
            }
            return (green >> rock & 1) != 0 ? GREEN : NO_COLOUR;
        }

        int counted(int rock, int what) {
            return Integer.bitCount(what == ALL ? has[RED][rock] | has[GREEN][rock] : has[what][rock]);
        }

        int allWaiting() {
            int all = 0;
            for (int place = 0; place < SLOTS * MOST_ROCKS; place++) {
                all += Integer.bitCount(ring[RED][place]) + Integer.bitCount(ring[GREEN][place]);
            }
            return all;
        }

        int howManyShow(int set, int colour) {
            int many = 0;
            for (int rock = 0; rock < rocks; rock++) {
                if ((set >> rock & 1) != 0 && shows[rock] == colour) {
                    many++;
                }
            }
            return many;
        }

        private int trueOnes() {
            int set = 0;
            for (int rock = 0; rock < rocks; rock++) {
                if (isTrue(rock)) {
                    set |= 1 << rock;
                }
            }
            return set;
        }

        /** Whether all true rocks, but those of a set, show a colour. */
        boolean isDone(int but) {
            return howManyShow(trueOnes() & ~but, NO_COLOUR) == 0;
        }

        boolean isUnlike() {
            int set = trueOnes();
            return howManyShow(set, RED) > 0 && howManyShow(set, GREEN) > 0;
        }

        boolean showsAs(long[] items, int from) {
            for (int rock = 0; rock < rocks; rock++) {
                if (items[from + rock] != shows[rock]) {
                    return false;
                }
            }
            return true;
        }

        /** What the true rocks show and believe, in one number: three bits for each. */
        int outcome() {
            int all = 0;
            for (int rock = 0; rock < rocks; rock++) {
                if (isTrue(rock)) {
                    all |= (shows[rock] * 2 + believed(rock)) << 3 * rock;
                }
            }
            return all;
        }

        /**
         * Whether every later minute would be as the last one, which changed nothing: a trial may
         * end then. A rock that was dark in that minute might yet act, so none may have been.
         */
        boolean isStill() {
            if (stirred) {
                return false;
            }
            for (int rock = 0; rock < rocks; rock++) {
                if (darkFrom[rock] < darkUntil[rock] && darkUntil[rock] >= minutes) {
                    return false;
                }
            }
            return allWaiting() == 0;
        }

        /** A minute goes by: how many messages are sent in it. */
        int pass(Law law, boolean byLots) {
            stirred = false;
            int sent = 0;
            for (int rock = 0; rock < rocks; rock++) {
                hear(rock);
            }
            for (int rock = 0; rock < rocks; rock++) {
                if (!isDark(rock)) {
                    sent += act(rock, law, byLots);
                }
            }
            hand = (hand + 1) % SLOTS;
            minutes = Math.min(minutes + 1, LAST_MINUTE);
            messages = Math.min(messages + sent, MOST_MESSAGES);
            return sent;
        }

        private void hear(int rock) {
            int place = ringPlace(hand, rock);
            int red = ring[RED][place];
            int green = ring[GREEN][place];
            ring[RED][place] = 0;
            ring[GREEN][place] = 0;
            if (!isDark(rock)) {
                has[RED][rock] = has[RED][rock] & ~green | red;
                has[GREEN][rock] = has[GREEN][rock] & ~red | green;
            }
        }

        private int act(int rock, Law law, boolean byLots) {
            int sent = 0;
            for (int i = 0; i < law.size; i++) {
                if (counted(rock, law.counted[i]) >= law.number[i]) {
                    int colour = law.colour[i] == OWN ? believed(rock) : law.colour[i];
                    switch (law.act[i]) {
                        case SAY: sent += say(rock, colour, byLots); break;
                        case BELIEVE: believe(rock, colour); break;
                        default: show(rock, colour); break;
                    }
                }
            }
            return sent;
        }

        private void believe(int rock, int colour) {
            if (believed(rock) != colour) {
                has[colour][rock] |= 1 << rock;
                has[1 - colour][rock] &= ~(1 << rock);
                stirred = true;
            }
        }

        private void show(int rock, int colour) {
            if (shows[rock] == NO_COLOUR) {
                shows[rock] = colour;
                stirred = true;
            }
        }

        private int say(int rock, int colour, boolean byLots) {
            int before = said[rock];
            if (before == colour) {
                return 0;
            }
            said[rock] = colour;
            stirred = true;
            if (kind[rock] == MUTE) {
                return 0;
            }
            for (int to = 0; to < rocks; to++) {
                if (to != rock) {
                    send(rock, to, colourSent(kind[rock], colour, before, to < rock), byLots);
                }
            }
            return rocks - 1;
        }

        private static int colourSent(int kind, int colour, int before, boolean toLesser) {
            switch (kind) {
                case LIAR: return toLesser ? colour : 1 - colour;
                case TWISTER: return toLesser ? 1 - colour : colour;
                case ECHO: return before == NO_COLOUR ? colour : before;
                default: return colour;
            }
        }

        /** Calls nothing: least comes here by eight calls. */
        private void send(int from, int to, int colour, boolean byLots) {
            int minutesOn = delay[from][to];
            if (byLots) {
                draw = draw * 1103515245 + 12345 & 0x7fffffff;
                minutesOn = (draw >> 16) % 9 + 1;
            }
            if (kind[from] == SLOW) {
                minutesOn *= 2;
            }
            int place = (hand + minutesOn) % SLOTS * MOST_ROCKS + to;
            ring[colour][place] |= 1 << from;
            ring[1 - colour][place] &= ~(1 << from);
        }
    }

    /** What would be, from now on: each trial runs on a night of its own, the true one stays. */
    private static final class Trials {
        private static final int DONE = 0, UNLIKE = 1, SHOWN = 2;

        private final Night now;
        private final Law told;
        private final Night trial = new Night();
        private final Law other = new Law();
        private long[] items = null;
        private int itemsFrom = 0;
        int found = 0;
        int foundMinutes = 0;

        Trials(Night night, Law law) {
            now = night;
            told = law;
        }

        private void begin(int liars) {
            trial.become(now);
            for (int rock = 0; rock < trial.rocks; rock++) {
                if ((liars >> rock & 1) != 0) {
                    trial.kind[rock] = LIAR;
                }
            }
        }

        private void run(Law law, int n) {
            begin(0);
            for (int m = 0; m < n; m++) {
                trial.pass(law, false);
                if (trial.isStill()) {
                    return;
                }
            }
        }

        /** The fewest minutes behind which the trial comes to a goal, for which some don't count. */
        private int until(Law law, int goal, int but) {
            for (int m = 0; m <= AHEAD; m++) {
                if (isAt(goal, but)) {
                    return m;
                }
                // What is shown stays: once all show alike, they never come apart.
                if (goal == UNLIKE && trial.isDone(0)) {
                    return NEVER;
                }
                trial.pass(law, false);
                if (trial.isStill()) {
                    return NEVER;
                }
            }
            return NEVER;
        }

        private boolean isAt(int goal, int but) {
            switch (goal) {
                case DONE: return trial.isDone(but);
                case UNLIKE: return trial.isUnlike();
                default: return items != null && trial.showsAs(items, itemsFrom);
            }
        }

        Night later(int n) {
            run(told, n);
            return trial;
        }

        int doneFromNow() {
            begin(0);
            return until(told, DONE, 0);
        }

        int unlikeWith(int liars) {
            begin(liars);
            return until(told, UNLIKE, 0);
        }

        int shownFromNow(long[] wanted, int from) {
            items = wanted;
            itemsFrom = from;
            begin(0);
            return until(told, SHOWN, 0);
        }

        void findDarkest() {
            foundMinutes = -1;
            for (int rock = 0; rock < now.rocks; rock++) {
                begin(0);
                trial.blackout = 1 << rock;
                keepIfLater(rock, until(told, DONE, 1 << rock));
            }
        }

        void findWorst() {
            foundMinutes = -1;
            for (int from = 0; from < now.rocks; from++) {
                for (int to = 0; to < now.rocks; to++) {
                    if (from != to) {
                        begin(0);
                        trial.delay[from][to] = DELAY_MOST;
                        keepIfLater(10 * from + to, until(told, DONE, 0));
                    }
                }
            }
        }

        private void keepIfLater(int what, int minutes) {
            if (minutes > foundMinutes) {
                found = what;
                foundMinutes = minutes;
            }
        }

        int mostBorne() {
            return borne(told, 2);
        }

        /** The most liars, up to a number of them, that a law bears; -1, if not even none. */
        private int borne(Law law, int most) {
            for (int k = 0; k <= most; k++) {
                for (int set = 0; set < 1 << now.rocks; set++) {
                    if (Integer.bitCount(set) == k) {
                        begin(set);
                        if (until(law, UNLIKE, 0) != NEVER) {
                            return k - 1;
                        }
                    }
                }
            }
            return most;
        }

        int leastNumber(int k, int m) {
            for (int n = 0; n <= NUMBER_MOST; n++) {
                other.becomeWithNumber(told, n);
                begin(0);
                if (until(other, DONE, 0) <= m && borne(other, k) == k) {
                    return n;
                }
            }
            return NONE;
        }

        int spareRules() {
            run(told, AHEAD);
            int withAll = trial.outcome();
            int spare = 0;
            for (int i = 0; i < told.size; i++) {
                other.becomeWithout(told, i);
                run(other, AHEAD);
                if (trial.outcome() == withAll) {
                    spare |= 1 << i;
                }
            }
            return spare;
        }
    }

    private static final class Logs {
        int size = 0;
        final int[] from = new int[MOST_LOGS];
        final int[] to = new int[MOST_LOGS];
        final int[] colour = new int[MOST_LOGS];

        int append(int newFrom, int newTo, int newColour) {
            from[size] = newFrom;
            to[size] = newTo;
            colour[size] = newColour;
            size++;
            return size;
        }

        void become(Logs other) {
            size = 0;
            for (int i = 0; i < other.size; i++) {
                append(other.from[i], other.to[i], other.colour[i]);
            }
        }

        int sureLiars() {
            int red = 0;
            int green = 0;
            for (int i = 0; i < size; i++) {
                if (colour[i] == RED) {
                    red |= 1 << from[i];
                } else {
                    green |= 1 << from[i];
                }
            }
            return red & green;
        }

        /** Ten times from and to of the pair to ask for, of so many rocks; NONE. */
        int pairToAsk(int rocks) {
            int liars = sureLiars();
            int fewest = MOST_LOGS + 1;
            int pair = NONE;
            for (int rock = 0; rock < rocks; rock++) {
                int many = logsOf(rock);
                int hearer = firstWithoutLog(rock, rocks);
                if (many > 0 && many < fewest && (liars >> rock & 1) == 0 && hearer >= 0) {
                    fewest = many;
                    pair = 10 * rock + hearer;
                }
            }
            return pair;
        }

        private int logsOf(int rock) {
            int many = 0;
            for (int i = 0; i < size; i++) {
                if (from[i] == rock) {
                    many++;
                }
            }
            return many;
        }

        private int firstWithoutLog(int rock, int rocks) {
            for (int hearer = 0; hearer < rocks; hearer++) {
                if (hearer != rock && !hasPair(rock, hearer)) {
                    return hearer;
                }
            }
            return -1;
        }

        private boolean hasPair(int a, int b) {
            for (int i = 0; i < size; i++) {
                if (from[i] == a && to[i] == b) {
                    return true;
                }
            }
            return false;
        }
    }

    /** A row of any lane is held as longs, so that a sheet that is made anew needs no new row. */
    private static final class Sheet {
        boolean isThere = false;
        int lane = 0;
        int size = 0;
        final long[] items = new long[MOST_ITEMS];

        void renew(int newLane, int n) {
            isThere = true;
            lane = newLane;
            size = n;
            Arrays.fill(items, 0L);
        }

        /** By subtraction, as from and n may be so great that their sum is not. */
        boolean hasRow(int from, int n) {
            return n >= 0 && from >= 0 && from <= size - n;
        }

        void put(int i, long v) {
            switch (lane) {
                case 0: items[i] = (byte) v; break;
                case 1: items[i] = (short) v; break;
                case 2: items[i] = (int) v; break;
                default: items[i] = v; break;
            }
        }
    }

    /** The letters typed, and what was read of them last: taken over only if there is no fault. */
    private static final class Tape {
        int size = 0;
        final Law law = new Law();
        final int[] kind = new int[MOST_ROCKS];
        final int[] colour = new int[MOST_ROCKS];
        final int[] darkFrom = new int[MOST_ROCKS];
        final int[] darkUntil = new int[MOST_ROCKS];
        private final char[] letters = new char[MOST_LETTERS];
        private int place = 0;
        /** The place of the first letter that can't stand; -1, while there is none. */
        private int wrong = -1;

        int append(int letter) {
            letters[size] = (char) letter;
            size++;
            return size;
        }

        /** How many rules, or a fault. */
        int readLaw() {
            begin();
            law.size = 0;
            for (int i = 0; i < MOST_RULES && wrong < 0 && !isAtEnd(); i++) {
                readRule();
                if (!isAtEnd() && i < MOST_RULES - 1) {
                    pass(';');
                    refuseEnd();
                }
            }
            return answer(law.size);
        }

        private void readRule() {
            int counted = oneOf("rga");
            int number = oneOf("0123456789");
            int act = oneOf("sbl");
            int paint = oneOf("rgo");
            if (wrong < 0) {
                law.append(counted, number, act, paint);
            }
        }

        /** How many rocks, or a fault. */
        int readRocks() {
            begin();
            refuseEnd();
            int rocks = 0;
            for (int i = 0; i < MOST_ROCKS && wrong < 0 && !isAtEnd(); i++) {
                readRock(i);
                rocks++;
                if (!isAtEnd() && i < MOST_ROCKS - 1) {
                    pass(',');
                    refuseEnd();
                }
            }
            return answer(rocks);
        }

        private void readRock(int i) {
            kind[i] = oneOf("plestm");
            colour[i] = oneOf("rg");
            darkFrom[i] = 0;
            darkUntil[i] = 0;
            if (wrong < 0 && isNext('d')) {
                pass('d');
                darkFrom[i] = readNumber(DARK_FROM_MOST);
                pass('-');
                darkUntil[i] = readNumber(DARK_UNTIL_MOST);
            }
        }

        private void begin() {
            place = 0;
            wrong = -1;
        }

        /** What was read, if no letter was wrong and none is left over. */
        private int answer(int many) {
            if (!isAtEnd()) {
                refuse(place);
            }
            return wrong < 0 ? many : FAULT - wrong;
        }

        private void refuse(int at) {
            if (wrong < 0) {
                wrong = at;
            }
        }

        private void refuseEnd() {
            if (isAtEnd()) {
                refuse(size);
            }
        }

        private boolean isAtEnd() {
            while (place < size && letters[place] == ' ') {
                place++;
            }
            return place >= size;
        }

        private boolean isNext(char letter) {
            return !isAtEnd() && letters[place] == letter;
        }

        private void pass(char letter) {
            if (wrong < 0 && isNext(letter)) {
                place++;
            } else {
                refuse(place);
            }
        }

        /** Which of some letters stands next; it is passed. */
        private int oneOf(String some) {
            int which = wrong >= 0 || isAtEnd() ? -1 : some.indexOf(letters[place]);
            if (which < 0) {
                refuse(place);
                return 0;
            }
            place++;
            return which;
        }

        private int readNumber(int most) {
            if (wrong >= 0 || isAtEnd() || !isDigit(letters[place])) {
                refuse(place);
                return 0;
            }
            int first = place;
            int number = 0;
            for (; place < size && isDigit(letters[place]); place++) {
                // No more than is needed to tell that it is too great, however many digits follow.
                number = Math.min(number * 10 + letters[place] - '0', most + 1);
            }
            if (number > most) {
                refuse(first);
            }
            return number;
        }

        private static boolean isDigit(char letter) {
            return letter >= '0' && letter <= '9';
        }
    }
}
