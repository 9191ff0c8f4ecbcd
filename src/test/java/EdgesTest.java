import java.lang.reflect.Method;

/**
 * Every method with every small choice of edges for its arguments, in several states: it never
 * throws, and answers as PlainModel does.
 */
public final class EdgesTest {
    private static final int[] EDGES = {
        Integer.MIN_VALUE, -1, 0, 1, 2, 3, 4, 5, 6, 8, 9, 10, 12, 18, 19, 23, 24, 25, 32, 60, 61, 99, 100, 101, 126,
        127, 255, 256, 511, 512, Integer.MAX_VALUE,
    };
    private static final int MOST = 9000, CALLS = 150;
    private static final Check c = new Check();
    private static final Draws draws = new Draws(43L);

    private NineLamps x;
    private PlainModel m;
    private int calls;
    private final int state;

    private EdgesTest(int state) {
        this.state = state;
    }

    public static void main(String[] args) throws Exception {
        for (int state = 0; state <= 4; state++) {
            EdgesTest t = new EdgesTest(state);
            for (Method method : NineLamps.class.getDeclaredMethods()) {
                if ((method.getModifiers() & java.lang.reflect.Modifier.PUBLIC) != 0) {
                    t.tryMethod(method);
                }
            }
        }
        c.end();
    }

    private void tryMethod(Method method) throws Exception {
        int n = method.getParameterCount();
        Method plain = PlainModel.class.getDeclaredMethod(method.getName(), method.getParameterTypes());
        int all = 1;
        for (int i = 0; i < n && all <= MOST; i++) {
            all *= EDGES.length;
        }
        boolean dear = method.getName().equals("least");
        int many = dear ? 60 : Math.min(all, MOST);
        calls = CALLS;
        for (int i = 0; i < many; i++) {
            Object[] values = new Object[n];
            int rest = i;
            for (int j = 0; j < n; j++) {
                boolean drawn = dear || all > MOST;
                int v = EDGES[drawn ? draws.below(EDGES.length) : rest % EDGES.length];
                rest /= EDGES.length;
                values[j] = method.getParameterTypes()[j] == long.class ? (Object) (v * 4294967297L) : (Object) v;
            }
            if (calls++ >= CALLS) {
                begin();
            }
            int got = (Integer) method.invoke(x, values);
            int due = (Integer) plain.invoke(m, values);
            c.due("state " + state + ": " + method.getName() + java.util.Arrays.toString(values), got, due);
        }
    }

    /** 0: new; 1: one rock; 2: four in the midst of a night; 3: all is full; 4: minute 999. */
    private void begin() {
        calls = 0;
        x = new NineLamps();
        m = new PlainModel();
        String[] rocks = {"", "sg", "pr,lg d3-9,sr,eg", "pr,lr,er,sr,tr,mr,pg,pr,pr", "pr,pg"};
        type(rocks[state]);
        if (state > 0) {
            x.rocks();
            m.rocks();
        }
        type(state == 0 ? "" : state == 3 ? "a1so;r2br;g3bg;r5lr;g5lg;a0so;r0sr;r9sg" : "a1so;r2br;g3bg;a3lo");
        x.laws();
        m.laws();
        if (state == 2) {
            x.night(3);
            m.night(3);
            sheets(6);
        }
        if (state == 3) {
            fill();
        }
        for (int i = 0; state == 4 && i < 37; i++) {
            x.night(27);
            m.night(27);
        }
    }

    private void fill() {
        for (int i = 0; i < 12; i++) {
            x.log(i % 9, (i + 1 + i / 9) % 9, i % 2);
            m.log(i % 9, (i + 1 + i / 9) % 9, i % 2);
        }
        for (int i = 0; i < 160; i++) {
            x.type(' ');
            m.type(' ');
        }
        sheets(24);
        x.lots(5);
        m.lots(5);
    }

    private void sheets(int n) {
        for (int i = 0; i < 4; i++) {
            x.sheet(i, i, n);
            m.sheet(i, i, n);
            for (int j = 0; j < n; j++) {
                x.item(i, i, j, 1 + j % 9);
                m.item(i, i, j, 1 + j % 9);
            }
        }
    }

    private void type(String text) {
        for (int i = 0; i < text.length(); i++) {
            x.type(text.charAt(i));
            m.type(text.charAt(i));
        }
    }
}
