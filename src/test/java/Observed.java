/**
 * All that an object would still answer, as one text: to tell whether a refused call changed
 * anything. Sheets, the tape and the image can be read only by calls that change something, so
 * the object is of no use behind this.
 */
final class Observed {
    private static final int ROCKS_ASKED_WHOLE = 3;

    private final NineLamps x;
    private final StringBuilder s = new StringBuilder();

    private Observed(NineLamps x) {
        this.x = x;
    }

    static String of(NineLamps x) {
        Observed o = new Observed(x);
        o.state(1);
        o.tape();
        if (o.put(x.restore()) == 1) {
            o.state(3);
        }
        o.sheets();
        return o.s.toString();
    }

    private int put(int answer) {
        s.append(answer).append(' ');
        return answer;
    }

    /** What is due is asked for every so many minutes: an object has but 512 calls. */
    private void state(int step) {
        s.append("\nstate ");
        for (int what = 0; what <= 7; what++) {
            put(x.count(what));
        }
        put(Check.draw(x));
        int rules = x.count(1);
        for (int i = 0; i < rules; i++) {
            for (int what = 0; what <= 3; what++) {
                put(x.rule(i, what));
            }
        }
        int rocks = x.count(0);
        for (int rock = 0; rock < rocks; rock++) {
            rock(rock, rocks, step);
        }
        logs();
    }

    private void rock(int rock, int rocks, int step) {
        s.append("\nrock ");
        for (int what = 0; what <= 5; what++) {
            put(x.told(rock, what));
        }
        for (int other = 0; other < rocks; other++) {
            put(x.heard(rock, other));
            boolean whole = rocks <= ROCKS_ASKED_WHOLE && other != rock;
            if (whole) {
                put(Check.delay(x, rock, other));
            }
            boolean asked = whole || rocks > ROCKS_ASKED_WHOLE && other == (rock + 1) % rocks;
            for (int minutes = 0; asked && minutes <= 17; minutes += whole ? step : 6) {
                put(x.due(rock, other, minutes));
            }
        }
    }

    private void logs() {
        put(x.sure());
        put(x.ask());
        put(x.fits(2));
    }

    /** How many letters it has, and what they are read as. */
    private void tape() {
        s.append("\ntape ");
        put(x.type(' '));
        put(x.laws());
    }

    private void sheets() {
        Check.rocks(x, "pr,pr");
        for (int sheet = 0; sheet <= 3; sheet++) {
            s.append("\nsheet ");
            for (int lane = 0; lane <= 3; lane++) {
                // Refused as nothing, as another lane, or, of its own lane, for the index.
                if (put(x.film(sheet, lane, -1)) == NineLamps.INDEX) {
                    items(sheet, lane);
                }
            }
            put(x.drop(sheet));
        }
    }

    /** With two rocks an item is read as the delay to the other one: 1 to 9, all others are NOT. */
    private void items(int sheet, int lane) {
        if (put(x.delays(1, sheet, lane, 0)) == 2) {
            put(Check.delay(x, 1, 0));
        }
        for (int i = 1; i < 24; i++) {
            int answer = put(x.delays(0, sheet, lane, i - 1));
            if (answer == NineLamps.INDEX) {
                return;
            }
            if (answer == 2) {
                put(Check.delay(x, 0, 1));
            }
        }
    }
}
