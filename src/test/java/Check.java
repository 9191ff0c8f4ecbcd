/** Counts answers that are not the ones due, and ends the test that found any with exit code 1. */
final class Check {
    private int calls = 0;
    private int wrong = 0;

    void due(String call, long got, long want) {
        calls++;
        if (got != want) {
            wrong++;
            System.out.println(call + " answered " + got + ", due is " + want);
        }
    }

    void holds(String what, boolean yes) {
        due(what, yes ? 1 : 0, 1);
    }

    void end() {
        System.out.println(wrong == 0 ? calls + " answers are as due" : wrong + " of " + calls + " answers are not as due");
        if (wrong != 0) {
            System.exit(1);
        }
    }

    /** Types a text, letter by letter. */
    static void type(NineLamps x, String text) {
        for (int i = 0; i < text.length(); i++) {
            x.type(text.charAt(i));
        }
    }

    static int laws(NineLamps x, String text) {
        type(x, text);
        return x.laws();
    }

    static int rocks(NineLamps x, String text) {
        type(x, text);
        return x.rocks();
    }

    /** An object with these rocks and this law. */
    static NineLamps with(String rocks, String law) {
        NineLamps x = new NineLamps();
        if (!rocks.isEmpty() && rocks(x, rocks) < 0 || laws(x, law) < 0) {
            throw new IllegalArgumentException("a test's own text is wrong: " + rocks + " / " + law);
        }
        return x;
    }

    /** All that can be asked without changing anything but the tape, as one text: to compare two states. */
    static String all(NineLamps x) {
        StringBuilder s = new StringBuilder();
        for (int what = 0; what <= 7; what++) {
            s.append(x.count(what)).append(' ');
        }
        int rules = x.count(1);
        for (int i = 0; i < rules; i++) {
            for (int what = 0; what <= 3; what++) {
                s.append(x.rule(i, what)).append(' ');
            }
        }
        int rocks = x.count(0);
        for (int rock = 0; rock < rocks; rock++) {
            s.append('|');
            for (int what = 0; what <= 7; what++) {
                s.append(x.told(rock, what)).append(' ');
            }
            for (int from = 0; from < rocks; from++) {
                s.append(x.heard(rock, from)).append(' ');
                for (int minutes = 0; from != rock && minutes <= 18; minutes++) {
                    s.append(x.due(rock, from, minutes));
                }
                if (from != rock) {
                    s.append('d').append(delay(x, rock, from));
                }
            }
        }
        s.append('|').append(x.sure()).append(' ').append(x.ask()).append(' ').append(draw(x));
        return s.toString();
    }

    /** A delay can be told by putting another one in its place, and that one back. */
    static int delay(NineLamps x, int a, int b) {
        int v = x.delay(a, b, 1);
        x.delay(a, b, v);
        return v;
    }

    static int draw(NineLamps x) {
        int v = x.seed(0);
        x.seed(v);
        return v;
    }
}
