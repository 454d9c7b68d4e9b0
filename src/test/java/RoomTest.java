import java.lang.management.ManagementFactory;

/** All calls of a run share one room: an object is small, and its dearest calls make nothing new. */
public final class RoomTest {
    private static final long MOST_BYTES_OF_AN_OBJECT = 8000;

    public static void main(String[] args) {
        // A first one, so that loading the classes is not counted.
        dearest(new RateTree());
        long before = bytes();
        RateTree x = new RateTree();
        long made = bytes() - before;
        Due.holds("an object takes " + made + " bytes", made <= MOST_BYTES_OF_AN_OBJECT);
        before = bytes();
        for (int i = 0; i < 20; i++) {
            dearest(x);
        }
        long more = bytes() - before;
        Due.holds("calls make nothing new, but took " + more + " bytes", more < 1000);
        Due.end();
    }

    private static long bytes() {
        return ((com.sun.management.ThreadMXBean) ManagementFactory.getThreadMXBean()).getCurrentThreadAllocatedBytes();
    }

    private static void dearest(RateTree x) {
        if (x.told(0) == 0) {
            x.source(1000);
            x.stage(1, 0, 1, 32);
            x.stage(2, 0, 1, 25);
            x.stage(1, 2, 1, 25);
            for (int n = 4; n < 16; n++) {
                x.gate(3);
                x.lock(n, true);
            }
            x.limits(15, 0, 1);
            x.wish(0, 3, 1000, 1, 999);
            x.multiple(0, 1, 3, 2);
            x.wish(1, 0, 1, 1, 0);
        }
        x.search(0);
        x.hopeless(0);
        x.hopeless(1);
        x.sheet(0, 1, 24);
        for (int n = 1; n < 16; n++) {
            x.lock(n, false);
            x.put(0, n, n < 4 ? x.about(n, 3) : 1 - x.about(n, 3));
        }
        x.plan(0, 1, 0);
        x.change();
        x.go();
        x.copy(0, 0, 0, 4, 20);
        for (int n = 4; n < 16; n++) {
            x.lock(n, true);
            x.tell(n);
            x.spread(n);
            x.rate(n, 0);
        }
        x.sound();
        x.power();
        x.told(2);
    }
}
