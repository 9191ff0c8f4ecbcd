/**
 * Nights in which much happens: laws that agree on a colour, or nearly, drawn delays, dark ones,
 * liars; some minutes go by, then everything is asked of the class and of PlainModel.
 */
public final class ScenarioTest {
    private static final int SCENARIOS = 2500, MOST_SHOWN = 20, ASKED_WHOLE = 3;

    private final Draws draws = new Draws(9L);
    private int shown = 0;
    private long calls = 0;
    private NineLamps x;
    private PlainModel m;
    private String told;

    public static void main(String[] args) {
        ScenarioTest t = new ScenarioTest();
        for (int i = 0; i < SCENARIOS && t.shown < MOST_SHOWN; i++) {
            t.oneScenario(i);
        }
        System.out.println(t.shown == 0 ? t.calls + " answers are as due" : "answers are not as due");
        if (t.shown != 0) {
            System.exit(1);
        }
    }

    private void due(String call, long got, long want) {
        calls++;
        if (got != want) {
            shown++;
            System.out.println(told + ": " + call + " answered " + got + ", due is " + want);
        }
    }

    private void oneScenario(int i) {
        x = new NineLamps();
        m = new PlainModel();
        boolean wide = i % 30 == 0;
        String rocks = rocksText(wide ? 7 + draws.below(3) : 1 + draws.below(6));
        String law = lawText(m.w.rocks.size());
        told = "scenario " + i + " " + rocks + " / " + law;
        for (int c = 0; c < rocks.length(); c++) {
            due("type", x.type(rocks.charAt(c)), m.type(rocks.charAt(c)));
        }
        due("rocks()", x.rocks(), m.rocks());
        for (int c = 0; c < law.length(); c++) {
            due("type", x.type(law.charAt(c)), m.type(law.charAt(c)));
        }
        due("laws()", x.laws(), m.laws());
        drawDelays();
        if (draws.oneIn(12)) {
            toTheLastMinutes();
        }
        letMinutesPass();
        askRocks();
        askTrials(wide);
        askLogs();
    }

    private String rocksText(int n) {
        StringBuilder s = new StringBuilder();
        boolean allPlain = draws.oneIn(3);
        for (int i = 0; i < n; i++) {
            s.append(i == 0 ? "" : ",");
            s.append(allPlain || draws.oneIn(2) ? 'p' : "plestm".charAt(draws.below(6)));
            s.append(draws.oneIn(3) ? 'g' : 'r');
            if (draws.oneIn(5)) {
                int from = draws.below(12);
                s.append('d').append(from).append('-').append(Math.min(100, from + draws.below(40)));
            }
        }
        return s.toString();
    }

    private String lawText(int rocks) {
        int a = 1 + draws.below(4);
        int b = 1 + draws.below(4);
        String[] some = {
            "a1so", "a0sg", "r" + a + "br", "g" + a + "bg", "r" + b + "lr", "g" + b + "lg", "a" + b + "lo",
            "r" + a + "sr", "g" + a + "sg", "a" + a + "so", "r" + b + "bg", "g" + b + "br", "a" + b + "br",
        };
        StringBuilder s = new StringBuilder("a1so");
        if (draws.oneIn(2)) {
            s.append(";r" + a + "br;g" + a + "bg;r" + b + "lr;g" + b + "lg");
        }
        int more = draws.below(4);
        for (int i = 0; i < more; i++) {
            s.append(';').append(some[draws.below(some.length)]);
        }
        return s.toString();
    }

    private void drawDelays() {
        int n = m.w.rocks.size();
        int many = draws.oneIn(3) ? 0 : draws.below(2 * n + 1);
        for (int i = 0; i < many; i++) {
            int a = draws.below(n), b = draws.below(n), v = 1 + draws.below(9);
            due("delay(" + a + ", " + b + ", " + v + ")", x.delay(a, b, v), m.delay(a, b, v));
        }
    }

    /** Trials go on behind minute 999, where the count of minutes stays. */
    private void toTheLastMinutes() {
        told += ", late";
        for (int i = 0; i < 16; i++) {
            due("lots(60)", x.lots(60), m.lots(60));
        }
        due("night(40)", x.night(40), m.night(40));
        int left = 30 + draws.below(10);
        due("night(" + left + ")", x.night(left), m.night(left));
        due("out()", x.out(), m.out());
        due("rock(0, 1)", x.rock(0, 1), m.rock(0, 1));
        due("rock(3, 0)", x.rock(3, 0), m.rock(3, 0));
    }

    private void letMinutesPass() {
        int n = draws.below(5);
        for (int i = 0; i < n; i++) {
            int d = draws.below(6);
            if (d == 0) {
                int v = draws.below(2147483647);
                due("seed(" + v + ")", x.seed(v), m.seed(v));
            } else if (d == 1) {
                due("lots(" + n + ")", x.lots(n), m.lots(n));
            } else if (d == 2) {
                due("rock", x.rock(n, 1), m.rock(n, 1));
            } else if (d == 3 && draws.oneIn(2)) {
                due("out()", x.out(), m.out());
            } else {
                due("minute()", x.minute(), m.minute());
            }
        }
    }

    private void askRocks() {
        for (int what = 0; what <= 7; what++) {
            due("count(" + what + ")", x.count(what), m.count(what));
        }
        int n = m.w.rocks.size();
        for (int a = 0; a < n; a++) {
            for (int what = 0; what <= 7; what++) {
                due("told(" + a + ", " + what + ")", x.told(a, what), m.told(a, what));
            }
            for (int counted = 0; counted <= 2; counted++) {
                due("counts(" + a + ", " + counted + ")", x.counts(a, counted), m.counts(a, counted));
            }
            for (int b = 0; b < n; b++) {
                due("heard(" + a + ", " + b + ")", x.heard(a, b), m.heard(a, b));
                // Of many pairs one minute each: an object has but 512 calls.
                int first = n <= ASKED_WHOLE ? 0 : draws.oneIn(2) ? draws.below(4) : draws.below(19);
                for (int minutes = first; minutes <= (n <= ASKED_WHOLE ? 18 : first); minutes++) {
                    due("due(" + a + ", " + b + ", " + minutes + ")", x.due(a, b, minutes), m.due(a, b, minutes));
                }
            }
            int later = draws.below(61);
            due("behind(" + a + ", " + later + ", 0)", x.behind(a, later, 0), m.behind(a, later, 0));
            due("behind(" + a + ", " + later + ", 1)", x.behind(a, later, 1), m.behind(a, later, 1));
        }
    }

    private void askTrials(boolean wide) {
        for (int what = 0; what <= 1; what++) {
            due("when(" + what + ")", x.when(what), m.when(what));
            due("darkest(" + what + ")", x.darkest(what), m.darkest(what));
            due("worst(" + what + ")", x.worst(what), m.worst(what));
        }
        due("bears()", x.bears(), m.bears());
        due("spare()", x.spare(), m.spare());
        for (int i = 0; i < 4; i++) {
            int set = draws.below(1 << m.w.rocks.size());
            due("holds(" + set + ")", x.holds(set), m.holds(set));
            int seen = draws.below(1 << m.w.rocks.size());
            int f = draws.below(5);
            due("ship(" + seen + ", " + f + ")", x.ship(seen, f), m.ship(seen, f));
        }
        for (int k = 0; k <= 2 && !wide; k++) {
            int minutes = draws.oneIn(2) ? draws.below(61) : draws.below(12);
            due("least(" + k + ", " + minutes + ")", x.least(k, minutes), m.least(k, minutes));
        }
        filmLaterAndSee();
    }

    private void filmLaterAndSee() {
        PlainModel.World later = m.w.after(draws.below(20));
        due("sheet(0, 0, 12)", x.sheet(0, 0, 12), m.sheet(0, 0, 12));
        for (int i = 0; i < m.w.rocks.size(); i++) {
            int v = later.rocks.get(i).shows;
            due("item", x.item(0, 0, 2 + i, v), m.item(0, 0, 2 + i, v));
        }
        due("seen(0, 0, 2)", x.seen(0, 0, 2), m.seen(0, 0, 2));
    }

    private void askLogs() {
        int n = draws.below(13);
        int most = 1 + draws.below(9);
        for (int i = 0; i < n; i++) {
            int a = draws.below(most), b = draws.below(9), c = draws.oneIn(4) ? 1 : 0;
            due("log(" + a + ", " + b + ", " + c + ")", x.log(a, b, c), m.log(a, b, c));
            due("ask()", x.ask(), m.ask());
        }
        due("sure()", x.sure(), m.sure());
        for (int k = 0; k <= 9; k++) {
            due("fits(" + k + ")", x.fits(k), m.fits(k));
        }
    }
}
