/**
 * Long runs of drawn calls, each asked of the class and of PlainModel. The draws are the test's own
 * arithmetic, so that every run is the same.
 */
public final class ModelTest {
    private static final int OBJECTS = 3500, CALLS = 512, LONGEST_TEXT = 140, MOST_SHOWN = 20;
    private static final int[] EDGES = {-1, -2147483648, 2147483647, 9, 10, 24, 25, 60, 61, 100, 101, 512};

    private final Draws draws = new Draws(20261118L);
    private int shown = 0;
    private long calls = 0;
    private NineLamps x;
    private PlainModel m;
    private int object;
    private boolean wide;

    public static void main(String[] args) {
        ModelTest t = new ModelTest();
        for (t.object = 0; t.object < OBJECTS && t.shown < MOST_SHOWN; t.object++) {
            t.runObject();
        }
        System.out.println(t.shown == 0 ? t.calls + " answers are as due" : "answers are not as due");
        if (t.shown != 0) {
            System.exit(1);
        }
    }

    private void runObject() {
        x = new NineLamps();
        m = new PlainModel();
        // Many rocks make the plain model slow at trials over sets, so they are the rarer case.
        wide = object % 25 == 0;
        begin();
        long last = calls + CALLS - LONGEST_TEXT;
        for (int i = 0; i < CALLS && calls < last && shown < MOST_SHOWN; i++) {
            oneCall();
        }
    }

    private void begin() {
        int n = wide ? 9 : draw(6);
        for (int i = 0; i < n; i++) {
            int kind = draw(3) == 0 ? draw(6) : 0;
            int colour = draw(2);
            due("rock", x.rock(kind, colour), m.rock(kind, colour));
        }
        int rules = draw(7);
        for (int i = 0; i < rules; i++) {
            addRule();
        }
    }

    private void addRule() {
        int counted = draw(3), n = draw(5), act = draw(3), colour = draw(3);
        due("add", x.add(counted, n, act, colour), m.add(counted, n, act, colour));
    }

    private int draw(int n) {
        return draws.below(n);
    }

    /** A number that mostly is below n, and sometimes an edge or beyond. */
    private int number(int n) {
        int d = draw(30);
        if (d == 0) {
            return EDGES[draw(EDGES.length)];
        }
        return d == 1 ? n : draw(Math.max(1, n));
    }

    private int rock() {
        return number(m.w.rocks.size());
    }

    private void due(String call, long got, long want) {
        calls++;
        if (got != want) {
            shown++;
            System.out.println("object " + object + ": " + call + " answered " + got + ", due is " + want);
        }
    }

    private void oneCall() {
        int d = draw(100);
        if (d < 30) {
            rocksCall(draw(15));
        } else if (d < 55) {
            nightsCall(draw(12));
        } else if (d < 75) {
            logsCall(draw(8));
        } else {
            sheetsCall(draw(7));
        }
    }

    private void rocksCall(int which) {
        int a, b, c, d;
        switch (which) {
            case 0:
                if (draw(3) == 0 && (wide || m.w.rocks.size() < 6)) {
                    a = number(6);
                    b = number(2);
                    due("rock(" + a + ", " + b + ")", x.rock(a, b), m.rock(a, b));
                }
                break;
            case 1:
                if (draw(4) == 0) {
                    due("out()", x.out(), m.out());
                }
                break;
            case 2:
                a = rock();
                b = draw(2) == 0 ? 0 : number(6);
                due("turn(" + a + ", " + b + ")", x.turn(a, b), m.turn(a, b));
                break;
            case 3:
                a = rock();
                b = draw(2) == 0 ? Math.min(99, m.w.minutes + draw(4)) : number(100);
                c = draw(2) == 0 ? Math.min(100, m.w.minutes + draw(20)) : number(101);
                due("dark(" + a + ", " + b + ", " + c + ")", x.dark(a, b, c), m.dark(a, b, c));
                break;
            case 4:
                a = rock();
                b = rock();
                c = number(10);
                due("delay(" + a + ", " + b + ", " + c + ")", x.delay(a, b, c), m.delay(a, b, c));
                break;
            case 5:
                a = rock();
                b = number(8);
                due("told(" + a + ", " + b + ")", x.told(a, b), m.told(a, b));
                break;
            case 6:
                a = rock();
                b = rock();
                due("heard(" + a + ", " + b + ")", x.heard(a, b), m.heard(a, b));
                break;
            case 7:
                a = rock();
                b = number(3);
                due("counts(" + a + ", " + b + ")", x.counts(a, b), m.counts(a, b));
                break;
            case 8:
                a = rock();
                b = rock();
                c = number(19);
                due("due(" + a + ", " + b + ", " + c + ")", x.due(a, b, c), m.due(a, b, c));
                break;
            case 9:
                a = number(m.w.law.size());
                b = number(4);
                due("rule(" + a + ", " + b + ")", x.rule(a, b), m.rule(a, b));
                break;
            case 10:
                a = number(3);
                b = number(6);
                c = number(3);
                d = number(3);
                due("add(" + a + ", " + b + ", " + c + ", " + d + ")", x.add(a, b, c, d), m.add(a, b, c, d));
                break;
            case 11:
                a = 30 + number(98);
                due("type(" + a + ")", x.type(a), m.type(a));
                break;
            case 12:
                lawText();
                break;
            case 13:
                rocksText();
                break;
            default:
                a = number(8);
                due("count(" + a + ")", x.count(a), m.count(a));
                break;
        }
    }

    private void typeText(String text) {
        // What stands on the tape from before would mostly be a fault at once.
        if (draw(3) != 0) {
            due("laws() ahead of a text", x.laws(), m.laws());
        }
        for (int i = 0; i < text.length(); i++) {
            due("type", x.type(text.charAt(i)), m.type(text.charAt(i)));
        }
    }

    private void put(StringBuilder s, char letter) {
        int d = draw(60);
        if (d == 0) {
            s.append("rga0123sblo;,pldestm-x".charAt(draw(22)));
        } else if (d == 1) {
            s.append(' ').append(letter);
        } else if (d != 2) {
            s.append(letter);
        }
    }

    private void lawText() {
        StringBuilder s = new StringBuilder();
        int rules = draw(20) == 0 ? 8 + draw(2) : draw(6);
        for (int i = 0; i < rules; i++) {
            if (i > 0) {
                put(s, ';');
            }
            put(s, "rga".charAt(draw(3)));
            put(s, "0123456789".charAt(draw(2) == 0 ? draw(10) : draw(4)));
            put(s, "sbl".charAt(draw(3)));
            put(s, "rgo".charAt(draw(3)));
        }
        typeText(s.toString());
        due("laws() of " + s, x.laws(), m.laws());
    }

    private void rocksText() {
        StringBuilder s = new StringBuilder();
        int rocks = wide && draw(4) == 0 ? 8 + draw(3) : draw(6);
        for (int i = 0; i < rocks; i++) {
            if (i > 0) {
                put(s, ',');
            }
            put(s, draw(2) == 0 ? 'p' : "plestm".charAt(draw(6)));
            put(s, "rg".charAt(draw(2)));
            if (draw(3) == 0) {
                put(s, 'd');
                for (char c : String.valueOf(draw(102)).toCharArray()) {
                    put(s, c);
                }
                put(s, '-');
                for (char c : String.valueOf(draw(103)).toCharArray()) {
                    put(s, c);
                }
            }
        }
        typeText(s.toString());
        due("rocks() of " + s, x.rocks(), m.rocks());
    }

    private void nightsCall(int which) {
        int a, b, c;
        switch (which) {
            case 0:
                due("minute()", x.minute(), m.minute());
                break;
            case 1:
                a = draw(3) == 0 ? number(61) : 1 + draw(4);
                due("night(" + a + ")", x.night(a), m.night(a));
                break;
            case 2:
                a = draw(3) == 0 ? number(61) : 1 + draw(4);
                due("lots(" + a + ")", x.lots(a), m.lots(a));
                break;
            case 3:
                a = number(2147483647);
                due("seed(" + a + ")", x.seed(a), m.seed(a));
                break;
            case 4:
                a = rock();
                b = number(61);
                c = number(2);
                due("behind(" + a + ", " + b + ", " + c + ")", x.behind(a, b, c), m.behind(a, b, c));
                break;
            case 5:
                a = number(2);
                due("when(" + a + ")", x.when(a), m.when(a));
                break;
            case 6:
                a = number(2);
                due("darkest(" + a + ")", x.darkest(a), m.darkest(a));
                break;
            case 7:
                a = number(1 << m.w.rocks.size());
                due("holds(" + a + ")", x.holds(a), m.holds(a));
                break;
            default:
                dearCall(which);
                break;
        }
    }

    private void dearCall(int which) {
        if (draw(wide ? 12 : 3) != 0) {
            return;
        }
        int a, b;
        switch (which) {
            case 8:
                due("bears()", x.bears(), m.bears());
                break;
            case 9:
                a = number(2);
                due("worst(" + a + ")", x.worst(a), m.worst(a));
                break;
            case 10:
                a = number(3);
                b = number(61);
                due("least(" + a + ", " + b + ")", x.least(a, b), m.least(a, b));
                break;
            default:
                due("spare()", x.spare(), m.spare());
                break;
        }
    }

    private void logsCall(int which) {
        int a, b, c;
        switch (which) {
            case 0:
                a = number(9);
                b = number(9);
                c = number(2);
                due("log(" + a + ", " + b + ", " + c + ")", x.log(a, b, c), m.log(a, b, c));
                break;
            case 1:
                if (draw(5) == 0) {
                    due("burn()", x.burn(), m.burn());
                }
                break;
            case 2:
                due("sure()", x.sure(), m.sure());
                break;
            case 3:
                a = number(10);
                due("fits(" + a + ")", x.fits(a), m.fits(a));
                break;
            case 4:
                due("ask()", x.ask(), m.ask());
                break;
            case 5:
                a = number(1 << m.w.rocks.size());
                b = number(5);
                due("ship(" + a + ", " + b + ")", x.ship(a, b), m.ship(a, b));
                break;
            case 6:
                if (draw(3) == 0) {
                    due("image()", x.image(), m.image());
                }
                break;
            default:
                if (draw(3) == 0) {
                    due("restore()", x.restore(), m.restore());
                }
                break;
        }
    }

    private void sheetsCall(int which) {
        int s = number(4), lane = draw(6) == 0 || s < 0 || s > 3 ? number(4) : m.lanes[s];
        int a, b, c, d;
        long v;
        switch (which) {
            case 0:
                a = rock();
                b = number(16);
                due("delays(" + a + ", " + s + ", " + lane + ", " + b + ")", x.delays(a, s, lane, b), m.delays(a, s, lane, b));
                break;
            case 1:
                a = number(20);
                due("film(" + s + ", " + lane + ", " + a + ")", x.film(s, lane, a), m.film(s, lane, a));
                break;
            case 2:
                a = number(20);
                filmLater(s, lane, a);
                due("seen(" + s + ", " + lane + ", " + a + ")", x.seen(s, lane, a), m.seen(s, lane, a));
                break;
            case 3:
                a = number(4);
                b = draw(3) == 0 ? -draw(3) : 12 + number(14);
                due("sheet(" + s + ", " + a + ", " + b + ")", x.sheet(s, a, b), m.sheet(s, a, b));
                break;
            case 4:
                if (draw(4) == 0) {
                    due("drop(" + s + ")", x.drop(s), m.drop(s));
                }
                break;
            case 5:
                for (int i = draw(24); i >= 0; i--) {
                    a = number(24);
                    v = draw(8) == 0 ? (long) draw(2147483647) * draw(2147483647) - draw(500) : draw(10) + (draw(9) == 0 ? 256L << 8 * draw(5) : 0);
                    due("item(" + s + ", " + lane + ", " + a + ", " + v + ")", x.item(s, lane, a, v), m.item(s, lane, a, v));
                }
                break;
            default:
                a = number(24);
                b = draw(2) == 0 ? s : number(4);
                c = number(24);
                d = draw(5) == 0 ? EDGES[draw(EDGES.length)] : draw(6);
                due("copy(" + s + ", " + a + ", " + b + ", " + c + ", " + d + ")", x.copy(s, a, b, c, d), m.copy(s, a, b, c, d));
                break;
        }
    }

    /** Puts what a later minute will show on a sheet, so that seen has something to find. */
    private void filmLater(int s, int lane, int from) {
        if (m.row(s, lane, from, m.w.rocks.size()) != 0 || draw(3) == 0) {
            return;
        }
        PlainModel.World later = m.w.after(draw(8));
        for (int i = 0; i < m.w.rocks.size(); i++) {
            int v = later.rocks.get(i).shows;
            due("item", x.item(s, lane, from + i, v), m.item(s, lane, from + i, v));
        }
    }
}
