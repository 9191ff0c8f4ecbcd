import java.lang.management.ManagementFactory;

/** All calls of a run live in one room: what an object takes is bounded, and no call makes anything. */
public final class RoomTest {
    private static final int OBJECT_MOST = 16_000, CALLS_MOST = 4_000;
    private static final com.sun.management.ThreadMXBean bean =
            (com.sun.management.ThreadMXBean) ManagementFactory.getThreadMXBean();

    public static void main(String[] args) {
        Check c = new Check();
        long id = Thread.currentThread().getId();
        // The first rounds also load what the machine itself needs.
        long calls = 0;
        long making = 0;
        int sum = 0;
        for (int round = 0; round < 4; round++) {
            long before = bean.getThreadAllocatedBytes(id);
            NineLamps x = new NineLamps();
            long made = bean.getThreadAllocatedBytes(id);
            sum += callAll(x);
            calls = bean.getThreadAllocatedBytes(id) - made;
            making = made - before;
        }
        System.out.println("a new object: " + making + " bytes; its calls: " + calls + " (" + sum + ")");
        c.holds("an object is small", making <= OBJECT_MOST);
        c.holds("calls make nothing", calls <= CALLS_MOST);
        c.end();
    }

    private static int callAll(NineLamps x) {
        int sum = 0;
        for (int i = 0; i < 9; i++) {
            sum += x.rock(i % 6, i % 2);
        }
        for (int i = 0; i < 8; i++) {
            sum += x.add(i % 3, 1, i % 3, i % 2);
        }
        for (int i = 0; i < 22; i++) {
            sum += x.night(2) + x.lots(1) + x.behind(0, 60, 0) + x.when(1) + x.darkest(0) + x.holds(3) + x.bears();
            sum += x.worst(0) + x.least(2, 60) + x.spare() + x.log(0, 1, 0) + x.ask() + x.fits(3) + x.ship(3, 1);
            sum += x.image() + x.restore() + x.sheet(i % 4, i % 4, 24) + x.film(i % 4, i % 4, 0) + x.seen(i % 4, i % 4, 0);
        }
        String text = "pr,lg,er d 3 - 9";
        for (int i = 0; i < text.length(); i++) {
            sum += x.type(text.charAt(i));
        }
        return sum + x.rocks() + x.laws();
    }
}
