import java.lang.management.ManagementFactory;

/** All calls of one run live in one room, of some 600,000 objects and arrays and 7.3 million fields and elements. */
public final class RoomTest {
    private static final long ROOM = 600000L * 12 + 7300000L * 4;

    public static void main(String[] args) {
        allCalls(new MoreHands());
        long start = bytes();
        MoreHands x = new MoreHands();
        long made = bytes() - start;
        System.out.println("an object takes " + made + " bytes");
        start = bytes();
        allCalls(x);
        long more = bytes() - start;
        System.out.println("512 calls take " + more + " bytes");
        Due.is("an object and 512 calls find room", made + more < ROOM ? 1 : 0, 1);
        MoreHands dear = new MoreHands();
        start = bytes();
        for (int i = 0; i < 128; i++) {
            dear.hindsight(24);
            dear.worst(6, 60, 1);
            dear.swing(60, 0);
            dear.tick(0);
        }
        more = bytes() - start;
        System.out.println("512 calls of the dearest take " + more + " bytes");
        Due.is("an object and 512 calls of the dearest find room", made + more < ROOM ? 1 : 0, 1);
        Due.end();
    }

    private static long bytes() {
        com.sun.management.ThreadMXBean threads =
            (com.sun.management.ThreadMXBean) ManagementFactory.getThreadMXBean();
        return threads.getThreadAllocatedBytes(Thread.currentThread().getId());
    }

    private static void allCalls(MoreHands x) {
        for (int i = 0; i < 32; i++) {
            x.setting(4, 4);
            x.told(i);
            x.load(i * 6, 60);
            x.plan(i, 3);
            x.lose(i * 6 + 1, true);
            x.tick(6);
            x.fail(i % 12, false);
            x.server(i % 12, 1);
            x.now(i);
            x.was(i, 3);
            x.hindsight(24);
            x.worst(6, 60, 1);
            x.swing(60, 0);
            x.digest();
            x.load(-1, -1);
            if (i % 10 == 9) {
                x.again();
            }
        }
    }
}
