import java.lang.management.ManagementFactory;
import java.util.function.Consumer;

/** All calls of a run live in one room, of 600,000 objects with 7.3 million fields and elements: 512 calls make no more. */
public final class RoomTest {
    private static final int CALLS = 512;
    /** How many of them a full camp takes at most. */
    private static final int FULL = 200;
    /** In bytes, sixteen for each object and eight for each element: what makes more has no place in the room. */
    private static final long ROOM = 600000L * 16 + 7300000L * 8;

    private static com.sun.management.ThreadMXBean beans;

    public static void main(String[] args) {
        beans = (com.sun.management.ThreadMXBean) ManagementFactory.getThreadMXBean();
        // What the machine makes for a call's first time is made by this one.
        full();
        stays("a full camp", x -> { });
        stays("house()", TongueCamp::house);
        stays("step()", TongueCamp::step);
        stays("better()", TongueCamp::better);
        stays("least()", TongueCamp::least);
        stays("groups()", x -> x.groups(6, 1, 19));
        stays("feed() and game()", x -> {
            x.feed(0x6966206f, 0x776e3a67, 0x61696e20, 0x353b2020, 0x20202020);
            x.game();
        });
        stays("said()", x -> x.said(3, 23, 5, true, false));
        stays("night()", TongueCamp::night);
        stays("paysSilence()", x -> x.paysSilence(3));
        stays("watch()", x -> x.watch(14, 2, 2));
        stays("met()", x -> x.met(12, 2, 20, 2));
        stays("give()", TongueCamp::give);
        stays("held()", x -> x.held(0));
        stays("count()", x -> x.count(10));
        stays("image() and again()", x -> {
            x.image(2);
            x.again(2);
        });
        few();
        Check.finish("RoomTest");
    }

    private static long made() {
        return beans.getThreadAllocatedBytes(Thread.currentThread().getId());
    }

    /** A full camp, then as many calls of a kind as are left. */
    private static void stays(String what, Consumer<TongueCamp> call) {
        long before = made();
        TongueCamp x = full();
        for (int i = 0; i < (CALLS - FULL) / 2; i++) {
            call.accept(x);
        }
        long bytes = made() - before;
        Check.due("bytes that " + what + " makes: " + bytes, bytes < ROOM, true);
    }

    /** The least cost is for few children alone. */
    private static void few() {
        long before = made();
        TongueCamp x = new TongueCamp();
        for (int i = 0; i < 7; i++) {
            x.child(i % 3, 9 + i, i == 4);
            x.cabin(2);
        }
        for (int i = 0; i < CALLS - 14; i++) {
            x.least();
        }
        long bytes = made() - before;
        Check.due("bytes that least() makes: " + bytes, bytes < ROOM, true);
    }

    /** A camp with as many of all as there can be, by FULL calls at most. */
    private static TongueCamp full() {
        TongueCamp x = new TongueCamp();
        for (int i = 0; i < 24; i++) {
            x.child(i % 6, 8 + i % 10, i % 3 == 0);
        }
        for (int i = 0; i < 8; i++) {
            x.cabin(8);
            x.helper(1 << i);
            x.host();
        }
        for (int i = 0; i < 24; i++) {
            x.bar(i, (i + 1) % 24);
            x.task(i, 1 + i % 10, i % 2 == 0);
            x.like(i % 8, i, i % 10);
            x.mark(i, i, 2 * i, i % 2);
            x.lie(i, i / 8);
        }
        x.groups(6, 1, 9);
        Check.game(x, "if own and not helper:lose 5;if words>9 and not own:gain 2;".repeat(8));
        x.image(0);
        x.image(1);
        x.image(2);
        x.said(0, 5, 9, true, true);
        return x;
    }
}
