import java.lang.management.ManagementFactory;

/** All calls of a run live in one room: an object takes little of it, and a call takes none. */
public final class RoomTest {
    private static final long MOST_BYTES_OF_AN_OBJECT = 100_000L;
    // What the measuring itself may take.
    private static final long MOST_BYTES_OF_CALLS = 2_000L;

    private static final Check CHECK = new Check("RoomTest");

    private static long used() {
        com.sun.management.ThreadMXBean bean =
                (com.sun.management.ThreadMXBean) ManagementFactory.getThreadMXBean();
        return bean.getThreadAllocatedBytes(Thread.currentThread().getId());
    }

    private static int acts(MiddleSpans x) {
        int sum = x.add(10, 700) + x.add(1, 2) + x.come(5, 17) + x.come(995, 30) + x.pass(100);
        sum += x.keep() + x.move(0, 200) + x.put(0, 77) + x.speed(0, 50) + x.restore() + x.undo();
        String row = "[1,5];(400,600)";
        for (int i = 0; i < row.length(); i++) {
            sum += x.type(row.charAt(i));
        }
        return sum + x.readSpans() + x.clearText() + x.readSpans() + x.remove(1) + x.pass(100);
    }

    private static int looks(MiddleSpans x) {
        int sum = x.free(500, true) + x.free(500, false) + x.changesIn(0) + x.meetIn(0, 1) + x.inside(0, 0);
        for (int what = 0; what < 12; what++) {
            sum += x.span(0, what) + x.walker(0, what) + x.ask(450, what) + x.most(what) + x.index(what);
            sum += x.event(what, what % 4) + x.count(what);
        }
        return sum;
    }

    public static void main(String[] args) {
        int sum = acts(new MiddleSpans()) + looks(new MiddleSpans());
        used();
        long before = used();
        MiddleSpans x = new MiddleSpans();
        long made = used();
        for (int i = 0; i < 6; i++) {
            sum += acts(x) + looks(x);
        }
        long called = used();
        CHECK.holds("the calls answered", sum != 0);
        CHECK.holds("an object takes " + (made - before) + " bytes", made - before <= MOST_BYTES_OF_AN_OBJECT);
        CHECK.holds("its calls take " + (called - made) + " bytes", called - made <= MOST_BYTES_OF_CALLS);
        CHECK.end();
    }
}
