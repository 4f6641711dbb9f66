import java.lang.management.ManagementFactory;

/** All calls of a run live in one room of 7.3 million elements: the dearest runs stay well below it. */
public final class RoomTest {
    private static final Checks CHECKS = new Checks();
    private static final com.sun.management.ThreadMXBean THREADS =
            (com.sun.management.ThreadMXBean) ManagementFactory.getThreadMXBean();
    // As if each element had four bytes, which counts longs twice and the objects' own bytes too.
    private static final long MOST_BYTES = 4L * 7300000;

    private interface Run {
        void go();
    }

    public static void main(String[] args) {
        stays("512 objects", RoomTest::onlyObjects);
        stays("wishes told deep", RoomTest::deepWishes);
        stays("tables made and packed", RoomTest::tablesMade);
        stays("everything else", RoomTest::everythingElse);
        CHECKS.finish("RoomTest");
    }

    private static void stays(String name, Run run) {
        run.go();
        long before = THREADS.getThreadAllocatedBytes(Thread.currentThread().getId());
        run.go();
        long used = THREADS.getThreadAllocatedBytes(Thread.currentThread().getId()) - before;
        System.out.println(name + ": " + used + " bytes");
        CHECKS.due(name, used < MOST_BYTES, true);
    }

    private static void onlyObjects() {
        for (int i = 0; i < 512; i++) {
            new WishWays();
        }
    }

    /** Each level has a + and a ; that wait for the next one. */
    private static void deepWishes() {
        StringBuilder text = new StringBuilder("a=1");
        for (int i = 0; i < 8; i++) {
            text.insert(0, "a=1+b=1;(").append(")");
        }
        text.insert(0, "1+1;");
        int calls = 0;
        while (calls < 512) {
            WishWays x = new WishWays();
            for (int i = 0; i < 12; i++) {
                CHECKS.due("wish", Checks.wish(x, 0, text.toString()), i);
            }
            calls += 12 * (2 * (text.length() / 20 + 1) + 1);
        }
    }

    private static void tablesMade() {
        WishWays x = new WishWays();
        Checks.wish(x, 0, "at=0;a=0;(b=0;b:1+b=1;b:2+b=2;b:3+b=3;b:0)");
        for (int i = 0; i < 256; i++) {
            x.make(0, i % 2, i % 8);
            x.packed(i % 2, i % 8);
        }
    }

    private static void everythingElse() {
        WishWays x = new WishWays();
        TableTest.countThroughAll(x, 0);
        TableTest.countThroughAll(x, 1);
        x.row(1, 7, 0, 0, 9);
        Checks.wish(x, 0, "1");
        for (int i = 0; i < 20; i++) {
            x.ends(0, 0);
            x.shown(0, i);
            x.guessed(i);
            x.writes();
            x.gap();
            x.worst(1 + i % 2);
            x.kept(0);
            x.liars();
            x.tell(0, true);
            x.known(0);
            x.taps(0);
            x.seen(0, i);
            x.neither(i, -1);
            x.renew();
            x.count(5);
            x.joined(i, 2);
            x.parts(0, 0, 0);
        }
    }
}
