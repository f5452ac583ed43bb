import java.lang.management.ManagementFactory;

/** All calls of one run live in one room: rows are made with the object, and calls make nothing. */
public final class RoomTest {
    public static void main(String[] args) {
        allCalls(new MoreHands());
        long start = bytes();
        MoreHands x = new MoreHands();
        long made = bytes() - start;
        System.out.println("an object takes " + made + " bytes");
        Due.is("an object takes less than 200000 bytes", made < 200000 ? 1 : 0, 1);
        start = bytes();
        allCalls(x);
        long more = bytes() - start;
        Due.is("512 calls make nothing", more < 4096 ? 0 : more, 0);
        Due.end();
    }

    private static long bytes() {
        com.sun.management.ThreadMXBean threads =
            (com.sun.management.ThreadMXBean) ManagementFactory.getThreadMXBean();
        return threads.getThreadAllocatedBytes(Thread.currentThread().getId());
    }

    private static void allCalls(MoreHands x) {
        for (int i = 0; i < 32; i++) {
            x.setting(4, 4);
            x.told(i);
            x.load(i * 6, 60);
            x.plan(i, 3);
            x.lose(i * 6 + 1, true);
            x.tick(6);
            x.fail(i % 12, false);
            x.server(i % 12, 1);
            x.now(i);
            x.was(i, 3);
            x.hindsight(24);
            x.worst(6, 60, 1);
            x.swing(60, 0);
            x.digest();
            x.load(-1, -1);
            if (i % 10 == 9) {
                x.again();
            }
        }
    }
}
