import java.lang.management.ManagementFactory;

/** All calls of a run live in one room: after the constructor no call may make anything. */
public final class RoomTest {
    private static final int OBJECTS = 60;

    public static void main(String[] args) {
        com.sun.management.ThreadMXBean meter = (com.sun.management.ThreadMXBean) ManagementFactory.getThreadMXBean();
        long id = Thread.currentThread().getId();
        CenturyPosts[] all = new CenturyPosts[OBJECTS];
        long start = meter.getThreadAllocatedBytes(id);
        for (int k = 0; k < OBJECTS; k++) all[k] = new CenturyPosts();
        long made = meter.getThreadAllocatedBytes(id) - start;
        Check.holds("an object is small: " + made / OBJECTS, made / OBJECTS < 20_000);
        for (CenturyPosts x : all) Check.landOf(x, "c4;d0092;h1091;e2091;d3091;h0092;e1091");
        ask(all[0]);
        start = meter.getThreadAllocatedBytes(id);
        for (CenturyPosts x : all) ask(x);
        made = meter.getThreadAllocatedBytes(id) - start;
        Check.holds("the dearest calls make nothing: " + made, made < 20_000);
        Check.end();
    }

    private static void ask(CenturyPosts x) {
        for (int k = 0; k < 6; k++) {
            x.sheet(0, k % 3, 60);
            x.land(3, 0, 0, 38);
            x.reading(k % 4, k, k);
            x.will(k % 4, k, k);
            x.help(0);
            x.fewest(39);
            x.odds(39, 0);
            x.wills(0, k % 3, 0, 6);
            x.laws();
            x.stubborn();
            x.named(0, 0);
            x.opened();
            x.guard(0, 39);
            x.copy(0, 0, 0, 1, 59);
        }
    }
}
