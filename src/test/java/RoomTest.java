import java.lang.management.ManagementFactory;

/** All calls of a run live in one room: none makes anything but the constructor and the first image of each k. */
public final class RoomTest {
    private static com.sun.management.ThreadMXBean beans;

    public static void main(String[] args) {
        beans = (com.sun.management.ThreadMXBean) ManagementFactory.getThreadMXBean();
        // What the JVM makes for a call's first time is made by this one.
        run(new TongueCamp());
        long before = made();
        TongueCamp x = new TongueCamp();
        long constructor = made() - before;
        Check.due("bytes that the constructor makes: " + constructor, constructor < 100000, true);
        images(x);
        before = made();
        few(x);
        x.again(1);
        all(x);
        long calls = made() - before;
        // Here it is 0; the bound lets the JVM take a little on its own.
        Check.due("bytes that calls make: " + calls, calls < 2000, true);
        Check.finish("RoomTest");
    }

    private static long made() {
        return beans.getThreadAllocatedBytes(Thread.currentThread().getId());
    }

    private static void run(TongueCamp x) {
        images(x);
        few(x);
        x.again(1);
        all(x);
    }

    private static void images(TongueCamp x) {
        for (int k = 0; k < 3; k++) {
            x.image(k);
        }
    }

    private static void few(TongueCamp x) {
        for (int i = 0; i < 7; i++) {
            x.child(i % 3, 9 + i, i == 4);
            x.cabin(2);
        }
        x.least();
        x.better();
    }

    private static void all(TongueCamp x) {
        for (int i = 0; i < 24; i++) {
            x.child(i % 6, 8 + i % 10, i % 3 == 0);
            x.cabin(8);
            x.helper(1 << i % 14);
            x.host();
            x.bar(i, 2 * i % 24);
            x.task(i, 1 + i % 10, i % 2 == 0);
            x.like(i % 8, i, i % 10);
            x.mark(i, i, 2 * i, i % 2);
        }
        x.house();
        x.step();
        x.lie(3, -1);
        x.better();
        x.cost(-1);
        x.groups(6, 1, 9);
        x.feed(0x6966206f, 0x776e3a67, 0x61696e20, 0x353b2020, 0x20202020);
        x.end(17);
        x.game();
        x.feed(0x6966206f, 0x776e3a67, 0x61696e20, 0x353b2020, 0x20202020);
        x.game();
        x.fault(1);
        for (int i = 0; i < 24; i++) {
            x.said(i, i, 2 * i, i % 2 == 0, true);
            x.paysSilence(i);
            x.tell(i, i % 15);
            x.count(i % 13);
            x.held(i % 5);
            x.table(12, 2, i, i % 20);
            x.met(12, 2, 20, i % 3);
            x.watch(14, 2, i % 3);
            x.watcher(i % 14);
        }
        x.night();
        x.give();
        x.image(2);
        x.again(2);
    }
}
