import java.lang.management.ManagementFactory;

/**
 * All calls of a run live in one room, from which nothing is taken away: an object is small when it is made, and
 * its calls make little further. (Ours make nothing but what they throw; the bounds here leave room for more.)
 */
public final class RoomTest {
    private static final com.sun.management.ThreadMXBean THREADS =
        (com.sun.management.ThreadMXBean) ManagementFactory.getThreadMXBean();
    private static final int OBJECT_BYTES = 200000;
    private static final int CALLS_BYTES = 1000000;

    public static void main(String[] args) {
        Due due = new Due();
        new FestivalFields();
        long before = bytes();
        FestivalFields x = new FestivalFields();
        long made = bytes() - before;
        due.yes("an object has " + made + " bytes", made < OBJECT_BYTES);
        fill(x);
        calls(x, 0);
        before = bytes();
        calls(x, 1);
        made = bytes() - before;
        due.yes("the calls make " + made + " bytes", made < CALLS_BYTES);
        due.end();
    }

    private static long bytes() {
        return THREADS.getThreadAllocatedBytes(Thread.currentThread().getId());
    }

    private static void fill(FestivalFields x) {
        for (int i = 0; i < 8; i++) {
            x.place(1000 + 100 * i, i % 2 == 0 ? 50 * i + 200 : 0);
        }
        for (int i = 0; i < 14; i++) {
            x.way(i % 8, (i + 1 + i / 8) % 8, 1 + i % 8, 50 + 20 * i);
        }
        for (int i = 0; i < 6; i++) {
            x.act(0, false, 3 * i, 40);
        }
    }

    private static void calls(FestivalFields x, int turn) {
        for (int i = 0; i < 12; i++) {
            x.crowd(i % 8, 500 * i + turn);
            x.empty();
            x.worst();
            x.forget();
            x.act(0, false, i, 60);
            x.act(0, false, i, 60);
            x.tooMany();
            x.shift(1);
            x.feed(0x74656E74, 0x7320363B, 0x70656F70, 0x6C652031, 0x32333435);
            x.licence();
            x.broken();
            x.tent(2, 2);
            x.strike(10 * turn);
            x.pass(i, true, 0);
            x.within(true, 0, 0);
            x.within(false, 0, 0);
            x.inside(i, 0, 0);
        }
    }
}
