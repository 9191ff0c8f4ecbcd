import java.util.ArrayList;
import java.util.List;

/**
 * The document once more, by its words alone: messages as a list, minutes one by one, no shortcut,
 * no bits. ModelTest compares its answers with those of the class.
 */
final class PlainModel {
    static final int BAD = -1, NOT = -2, FULL = -3, NONE = -4, NULL = -11, CAST = -12, INDEX = -13, SIZE = -14;

    static final class Rock {
        int kind, believes, shows = 2, said = 2, from, until;
        boolean alwaysDark;
        int[] heard = {2, 2, 2, 2, 2, 2, 2, 2, 2};
        int[] delay = {1, 1, 1, 1, 1, 1, 1, 1, 1};

        Rock twin() {
            Rock r = new Rock();
            r.kind = kind;
            r.believes = believes;
            r.shows = shows;
            r.said = said;
            r.from = from;
            r.until = until;
            r.alwaysDark = alwaysDark;
            r.heard = heard.clone();
            r.delay = delay.clone();
            return r;
        }

        boolean isTrue() {
            return kind == 0 || kind == 3;
        }
    }

    record Message(int from, int to, int colour, long tick) { }

    record Rule(int counted, int n, int act, int colour) { }

    record Log(int from, int to, int colour) { }

    static final class World {
        List<Rock> rocks = new ArrayList<>();
        List<Rule> law = new ArrayList<>();
        List<Message> mail = new ArrayList<>();
        List<Log> logs = new ArrayList<>();
        long tick = 0;
        int minutes = 0;
        int messages = 0;
        long draw = 1;

        World twin() {
            World w = new World();
            for (Rock r : rocks) {
                w.rocks.add(r.twin());
            }
            w.law.addAll(law);
            w.mail.addAll(mail);
            w.logs.addAll(logs);
            w.tick = tick;
            w.minutes = minutes;
            w.messages = messages;
            w.draw = draw;
            return w;
        }

        boolean dark(int rock) {
            Rock r = rocks.get(rock);
            return r.alwaysDark || minutes >= r.from && minutes < r.until;
        }

        int has(int rock, int counted) {
            int n = 0;
            for (int other = 0; other < rocks.size(); other++) {
                int c = other == rock ? rocks.get(rock).believes : rocks.get(rock).heard[other];
                if (c != 2 && (counted == 2 || counted == c)) {
                    n++;
                }
            }
            return n;
        }

        int minute(boolean lots) {
            List<Message> rest = new ArrayList<>();
            for (Message m : mail) {
                if (m.tick() != tick) {
                    rest.add(m);
                } else if (!dark(m.to())) {
                    rocks.get(m.to()).heard[m.from()] = m.colour();
                }
            }
            mail = rest;
            int sent = 0;
            for (int i = 0; i < rocks.size(); i++) {
                if (dark(i)) {
                    continue;
                }
                Rock r = rocks.get(i);
                for (Rule rule : law) {
                    if (has(i, rule.counted()) < rule.n()) {
                        continue;
                    }
                    int c = rule.colour() == 2 ? r.believes : rule.colour();
                    if (rule.act() == 0 && r.said != c) {
                        int before = r.said;
                        r.said = c;
                        sent += sendAll(i, c, before, lots);
                    } else if (rule.act() == 1) {
                        r.believes = c;
                    } else if (rule.act() == 2 && r.shows == 2) {
                        r.shows = c;
                    }
                }
            }
            tick++;
            if (minutes < 999) {
                minutes++;
            }
            messages = Math.min(999999, messages + sent);
            return sent;
        }

        int sendAll(int i, int c, int before, boolean lots) {
            Rock r = rocks.get(i);
            int sent = 0;
            for (int to = 0; to < rocks.size(); to++) {
                if (to == i || r.kind == 5) {
                    continue;
                }
                int what = c;
                if (r.kind == 1 && to > i || r.kind == 4 && to < i) {
                    what = c == 0 ? 1 : 0;
                } else if (r.kind == 2 && before != 2) {
                    what = before;
                }
                long d = r.delay[to];
                if (lots) {
                    draw = (draw * 1103515245L + 12345L) % 2147483648L;
                    d = draw / 65536 % 9 + 1;
                }
                long at = tick + (r.kind == 3 ? 2 * d : d);
                int target = to;
                mail.removeIf(m -> m.from() == i && m.to() == target && m.tick() == at);
                mail.add(new Message(i, to, what, at));
                sent++;
            }
            return sent;
        }

        boolean done(int but) {
            for (int i = 0; i < rocks.size(); i++) {
                if (i != but && rocks.get(i).isTrue() && rocks.get(i).shows == 2) {
                    return false;
                }
            }
            return true;
        }

        boolean unlike() {
            boolean[] shown = new boolean[3];
            for (Rock r : rocks) {
                if (r.isTrue()) {
                    shown[r.shows] = true;
                }
            }
            return shown[0] && shown[1];
        }

        World after(int n) {
            World w = twin();
            for (int i = 0; i < n; i++) {
                w.minute(false);
            }
            return w;
        }

        int whenDone(int but) {
            World w = twin();
            for (int m = 0; m <= 60; m++) {
                if (w.done(but)) {
                    return m;
                }
                w.minute(false);
            }
            return 61;
        }

        boolean holds(int set) {
            World w = twin();
            for (int i = 0; i < rocks.size(); i++) {
                if ((set & 1 << i) != 0) {
                    w.rocks.get(i).kind = 1;
                }
            }
            return !w.after(60).unlike();
        }

        int bears() {
            int most = -4;
            for (int k = 0; k <= 2; k++) {
                for (int set = 0; set < 1 << rocks.size(); set++) {
                    if (Integer.bitCount(set) <= k && !holds(set)) {
                        return most;
                    }
                }
                most = k;
            }
            return most;
        }
    }

    World w = new World();
    World image = null;
    StringBuilder tape = new StringBuilder();
    long[][] sheets = new long[4][];
    int[] lanes = new int[4];

    boolean no(int rock) {
        return rock < 0 || rock >= w.rocks.size();
    }

    static boolean off(int v, int a, int b) {
        return v < a || v > b;
    }

    int rock(int kind, int colour) {
        if (off(kind, 0, 5) || off(colour, 0, 1)) {
            return BAD;
        }
        if (w.rocks.size() == 9) {
            return FULL;
        }
        Rock r = new Rock();
        r.kind = kind;
        r.believes = colour;
        w.rocks.add(r);
        return w.rocks.size() - 1;
    }

    int out() {
        int last = w.rocks.size() - 1;
        if (last < 0) {
            return NONE;
        }
        w.rocks.remove(last);
        w.mail.removeIf(m -> m.from() == last || m.to() == last);
        for (Rock r : w.rocks) {
            r.heard[last] = 2;
            r.delay[last] = 1;
        }
        return last;
    }

    int turn(int rock, int kind) {
        if (no(rock) || off(kind, 0, 5)) {
            return BAD;
        }
        int was = w.rocks.get(rock).kind;
        w.rocks.get(rock).kind = kind;
        return was;
    }

    int dark(int rock, int from, int until) {
        if (no(rock) || off(from, 0, 99) || off(until, 0, 100)) {
            return BAD;
        }
        w.rocks.get(rock).from = from;
        w.rocks.get(rock).until = until;
        return w.dark(rock) ? 1 : 0;
    }

    int delay(int a, int b, int v) {
        if (no(a) || no(b) || a == b || off(v, 1, 9)) {
            return BAD;
        }
        int was = w.rocks.get(a).delay[b];
        w.rocks.get(a).delay[b] = v;
        return was;
    }

    int told(int rock, int what) {
        if (no(rock) || off(what, 0, 7)) {
            return BAD;
        }
        Rock r = w.rocks.get(rock);
        int[] all = {r.kind, r.believes, r.shows, r.said, r.from, r.until, w.dark(rock) ? 1 : 0, r.isTrue() ? 1 : 0};
        return all[what];
    }

    int heard(int rock, int from) {
        if (no(rock) || no(from)) {
            return BAD;
        }
        return rock == from ? w.rocks.get(rock).believes : w.rocks.get(rock).heard[from];
    }

    int counts(int rock, int counted) {
        return no(rock) || off(counted, 0, 2) ? BAD : w.has(rock, counted);
    }

    int due(int rock, int from, int minutes) {
        if (no(rock) || no(from) || rock == from || off(minutes, 0, 18)) {
            return BAD;
        }
        for (Message m : w.mail) {
            if (m.from() == from && m.to() == rock && m.tick() == w.tick + minutes) {
                return m.colour();
            }
        }
        return 2;
    }

    int rule(int i, int what) {
        if (i < 0 || i >= w.law.size() || off(what, 0, 3)) {
            return BAD;
        }
        Rule r = w.law.get(i);
        return new int[] {r.counted(), r.n(), r.act(), r.colour()}[what];
    }

    int add(int counted, int n, int act, int colour) {
        if (off(counted, 0, 2) || off(n, 0, 9) || off(act, 0, 2) || off(colour, 0, 2)) {
            return BAD;
        }
        if (w.law.size() == 8) {
            return FULL;
        }
        w.law.add(new Rule(counted, n, act, colour));
        return w.law.size();
    }

    int type(int letter) {
        if (off(letter, 32, 126)) {
            return BAD;
        }
        if (tape.length() == 160) {
            return FULL;
        }
        tape.append((char) letter);
        return tape.length();
    }

    /** A token: a letter, or a whole number, and where it began; the end is an empty one. */
    record Token(String text, int place) { }

    static List<Token> tokens(String text, boolean numbers) {
        List<Token> all = new ArrayList<>();
        int i = 0;
        while (i < text.length()) {
            int j = i + 1;
            if (text.charAt(i) != ' ') {
                while (numbers && Character.isDigit(text.charAt(i)) && j < text.length() && Character.isDigit(text.charAt(j))) {
                    j++;
                }
                all.add(new Token(text.substring(i, j), i));
            }
            i = j;
        }
        all.add(new Token("", text.length()));
        return all;
    }

    static final class Fault extends Exception {
        private static final long serialVersionUID = 1L;
        final int place;

        Fault(int place) {
            this.place = place;
        }
    }

    static int which(Token t, String letters) throws Fault {
        int i = t.text().length() == 1 ? letters.indexOf(t.text()) : -1;
        if (i < 0) {
            throw new Fault(t.place());
        }
        return i;
    }

    static int number(Token t, int most) throws Fault {
        if (!t.text().matches("[0-9]+") || new java.math.BigInteger(t.text()).compareTo(java.math.BigInteger.valueOf(most)) > 0) {
            throw new Fault(t.place());
        }
        return Integer.parseInt(t.text());
    }

    int laws() {
        List<Token> all = tokens(tape.toString(), false);
        tape.setLength(0);
        List<Rule> law = new ArrayList<>();
        try {
            int i = 0;
            if (all.size() > 1) {
                while (true) {
                    law.add(new Rule(which(all.get(i), "rga"), which(all.get(i + 1), "0123456789"),
                            which(all.get(i + 2), "sbl"), which(all.get(i + 3), "rgo")));
                    Token next = all.get(i + 4);
                    if (next.text().isEmpty()) {
                        break;
                    }
                    if (!next.text().equals(";") || law.size() == 8) {
                        throw new Fault(next.place());
                    }
                    i += 5;
                }
            }
        } catch (Fault f) {
            return -20 - f.place;
        }
        w.law = law;
        return law.size();
    }

    int rocks() {
        List<Token> all = tokens(tape.toString(), true);
        tape.setLength(0);
        List<Rock> some = new ArrayList<>();
        try {
            int i = 0;
            while (true) {
                Rock r = new Rock();
                r.kind = which(all.get(i), "plestm");
                r.believes = which(all.get(i + 1), "rg");
                i += 2;
                if (all.get(i).text().equals("d")) {
                    r.from = number(all.get(i + 1), 99);
                    which(all.get(i + 2), "-");
                    r.until = number(all.get(i + 3), 100);
                    i += 4;
                }
                some.add(r);
                if (all.get(i).text().isEmpty()) {
                    break;
                }
                if (!all.get(i).text().equals(",") || some.size() == 9) {
                    throw new Fault(all.get(i).place());
                }
                i++;
            }
        } catch (Fault f) {
            return -20 - f.place;
        }
        w.rocks = some;
        w.mail.clear();
        w.minutes = 0;
        w.messages = 0;
        return some.size();
    }

    int count(int what) {
        if (off(what, 0, 7)) {
            return BAD;
        }
        return new int[] {w.rocks.size(), w.law.size(), w.minutes, w.messages, w.logs.size(), w.done(-1) ? 1 : 0,
            w.unlike() ? 1 : 0, w.mail.size()}[what];
    }

    int minute() {
        return w.minutes == 999 ? FULL : w.minute(false);
    }

    int many(int n, boolean lots) {
        if (off(n, 1, 60)) {
            return BAD;
        }
        if (w.minutes + n > 999) {
            return FULL;
        }
        int sent = 0;
        for (int i = 0; i < n; i++) {
            sent += w.minute(lots);
        }
        return sent;
    }

    int night(int n) {
        return many(n, false);
    }

    int lots(int n) {
        return many(n, true);
    }

    int seed(int v) {
        if (v < 0) {
            return BAD;
        }
        int was = (int) w.draw;
        w.draw = v;
        return was;
    }

    int behind(int rock, int n, int what) {
        if (no(rock) || off(n, 0, 60) || off(what, 0, 1)) {
            return BAD;
        }
        Rock r = w.after(n).rocks.get(rock);
        return what == 0 ? r.shows : r.believes;
    }

    int when(int what) {
        if (off(what, 0, 1)) {
            return BAD;
        }
        World v = w.twin();
        for (int m = 0; m <= 60; m++) {
            if (what == 0 ? v.done(-1) : v.unlike()) {
                return m;
            }
            v.minute(false);
        }
        return NONE;
    }

    int darkest(int what) {
        if (off(what, 0, 1)) {
            return BAD;
        }
        int best = NONE, most = NONE;
        for (int i = 0; i < w.rocks.size(); i++) {
            World v = w.twin();
            v.rocks.get(i).alwaysDark = true;
            int m = v.whenDone(i);
            if (best == NONE || m > most) {
                best = i;
                most = m;
            }
        }
        return what == 0 ? best : most;
    }

    int holds(int set) {
        return set < 0 || set >= 1 << w.rocks.size() ? BAD : w.holds(set) ? 1 : 0;
    }

    int bears() {
        return w.bears();
    }

    int worst(int what) {
        if (off(what, 0, 1)) {
            return BAD;
        }
        int best = NONE, most = NONE;
        for (int a = 0; a < w.rocks.size(); a++) {
            for (int b = 0; b < w.rocks.size(); b++) {
                if (a == b) {
                    continue;
                }
                World v = w.twin();
                v.rocks.get(a).delay[b] = 9;
                int m = v.whenDone(-1);
                if (best == NONE || m > most) {
                    best = 10 * a + b;
                    most = m;
                }
            }
        }
        return what == 0 ? best : most;
    }

    int least(int k, int m) {
        if (off(k, 0, 2) || off(m, 0, 60)) {
            return BAD;
        }
        for (int n = 0; n <= 9; n++) {
            World v = w.twin();
            for (int i = 0; i < v.law.size(); i++) {
                Rule r = v.law.get(i);
                v.law.set(i, new Rule(r.counted(), n, r.act(), r.colour()));
            }
            if (v.after(m).done(-1) && v.bears() >= k) {
                return n;
            }
        }
        return NONE;
    }

    int spare() {
        World with = w.after(60);
        int set = 0;
        for (int i = 0; i < w.law.size(); i++) {
            World v = w.twin();
            v.law.remove(i);
            v = v.after(60);
            boolean same = true;
            for (int r = 0; r < w.rocks.size(); r++) {
                Rock a = with.rocks.get(r), b = v.rocks.get(r);
                if (a.isTrue() && (a.shows != b.shows || a.believes != b.believes)) {
                    same = false;
                }
            }
            if (same) {
                set += 1 << i;
            }
        }
        return set;
    }

    int log(int from, int to, int colour) {
        if (off(from, 0, 8) || off(to, 0, 8) || from == to || off(colour, 0, 1)) {
            return BAD;
        }
        if (w.logs.size() == 12) {
            return FULL;
        }
        w.logs.add(new Log(from, to, colour));
        return w.logs.size();
    }

    int burn() {
        int n = w.logs.size();
        w.logs.clear();
        return n;
    }

    int sure() {
        int set = 0;
        for (Log a : w.logs) {
            for (Log b : w.logs) {
                if (a.from() == b.from() && a.colour() != b.colour()) {
                    set |= 1 << a.from();
                }
            }
        }
        return set;
    }

    int fits(int k) {
        if (off(k, 0, 9)) {
            return BAD;
        }
        int n = 0;
        for (int set = 0; set < 1 << w.rocks.size(); set++) {
            if (Integer.bitCount(set) == k && (sure() & ~set) == 0) {
                n++;
            }
        }
        return n;
    }

    int ask() {
        int best = NONE, fewest = 99;
        for (int a = 0; a < w.rocks.size(); a++) {
            for (int b = 0; b < w.rocks.size(); b++) {
                int from = a, to = b;
                long of = w.logs.stream().filter(l -> l.from() == from).count();
                boolean in = w.logs.stream().anyMatch(l -> l.from() == from && l.to() == to);
                if (a != b && !in && of > 0 && (sure() >> a & 1) == 0 && of < fewest) {
                    best = 10 * a + b;
                    fewest = (int) of;
                }
            }
        }
        return best;
    }

    int ship(int set, int f) {
        if (set < 0 || set >= 1 << w.rocks.size() || off(f, 0, 4)) {
            return BAD;
        }
        int[] n = new int[3];
        for (int i = 0; i < w.rocks.size(); i++) {
            if ((set >> i & 1) == 1) {
                n[w.rocks.get(i).shows]++;
            }
        }
        for (int c = 0; c < 2; c++) {
            if (n[c] > f && n[1 - c] <= f) {
                return c;
            }
        }
        return NONE;
    }

    int image() {
        image = w.twin();
        return 1;
    }

    int restore() {
        if (image == null) {
            return NONE;
        }
        w = image.twin();
        return 1;
    }

    int row(int sheet, int lane, int from, int n) {
        if (off(sheet, 0, 3) || off(lane, 0, 3)) {
            return BAD;
        }
        if (sheets[sheet] == null) {
            return NULL;
        }
        if (lanes[sheet] != lane) {
            return CAST;
        }
        return from < 0 || (long) from + n > sheets[sheet].length ? INDEX : 0;
    }

    int delays(int rock, int sheet, int lane, int from) {
        int n = w.rocks.size();
        int r = no(rock) ? BAD : row(sheet, lane, from, n);
        if (r != 0) {
            return r;
        }
        for (int i = 0; i < n; i++) {
            if (i != rock && (sheets[sheet][from + i] < 1 || sheets[sheet][from + i] > 9)) {
                return NOT;
            }
        }
        for (int i = 0; i < n; i++) {
            if (i != rock) {
                w.rocks.get(rock).delay[i] = (int) sheets[sheet][from + i];
            }
        }
        return n;
    }

    int film(int sheet, int lane, int from) {
        int r = row(sheet, lane, from, w.rocks.size());
        if (r != 0) {
            return r;
        }
        for (int i = 0; i < w.rocks.size(); i++) {
            sheets[sheet][from + i] = w.rocks.get(i).shows;
        }
        return w.rocks.size();
    }

    int seen(int sheet, int lane, int from) {
        int r = row(sheet, lane, from, w.rocks.size());
        if (r != 0) {
            return r;
        }
        for (int m = 0; m <= 60; m++) {
            World v = w.after(m);
            boolean same = true;
            for (int i = 0; i < w.rocks.size(); i++) {
                same &= v.rocks.get(i).shows == sheets[sheet][from + i];
            }
            if (same) {
                return m;
            }
        }
        return NONE;
    }

    int sheet(int sheet, int lane, int n) {
        if (off(sheet, 0, 3) || off(lane, 0, 3) || n > 24) {
            return BAD;
        }
        if (n < 0) {
            return SIZE;
        }
        sheets[sheet] = new long[n];
        lanes[sheet] = lane;
        return n;
    }

    int drop(int sheet) {
        if (off(sheet, 0, 3)) {
            return BAD;
        }
        if (sheets[sheet] == null) {
            return NULL;
        }
        int n = sheets[sheet].length;
        sheets[sheet] = null;
        return n;
    }

    int item(int sheet, int lane, int i, long v) {
        int r = row(sheet, lane, i, 1);
        if (r != 0) {
            return r;
        }
        int lost = new int[] {56, 48, 32, 0}[lane];
        sheets[sheet][i] = v << lost >> lost;
        return 1;
    }

    int copy(int from, int i, int to, int j, int n) {
        if (off(from, 0, 3) || off(to, 0, 3)) {
            return BAD;
        }
        if (sheets[from] == null || sheets[to] == null) {
            return NULL;
        }
        if (lanes[from] != lanes[to]) {
            return CAST;
        }
        if (n < 0 || i < 0 || j < 0 || (long) i + n > sheets[from].length || (long) j + n > sheets[to].length) {
            return INDEX;
        }
        long[] taken = sheets[from].clone();
        for (int k = 0; k < n; k++) {
            sheets[to][j + k] = taken[i + k];
        }
        return n;
    }
}
