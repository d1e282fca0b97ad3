/** Promises 21 to 25: helpers, watches, tables, who met. */
public final class WatchTest {
    public static void main(String[] args) {
        helpers();
        watches();
        rests();
        atHand();
        tables();
        met();
        Check.finish("WatchTest");
    }

    private static void helpers() {
        TongueCamp x = new TongueCamp();
        Check.due("bits -1", x.helper(-1), -1);
        Check.due("bit 14", x.helper(1 << 14), -1);
        for (int i = 0; i < 6; i++) {
            Check.due("helper " + i, x.helper(i == 5 ? 16383 : i), i);
        }
        Check.due("7th helper", x.helper(0), -1);
        Check.due("6 helpers", x.count(3), 6);
    }

    private static void plan(TongueCamp x, int n, int w, int k, int... sets) {
        String call = "watch(" + n + ", " + w + ", " + k + ")";
        Check.due(call, x.watch(n, w, k), n);
        for (int night = 0; night < n; night++) {
            Check.due(call + " night " + night, x.watcher(night), sets[night]);
        }
        Check.due(call + " night " + n, x.watcher(n), -1);
        Check.due(call + " night -1", x.watcher(-1), -1);
    }

    private static TongueCamp helped(int... nights) {
        TongueCamp x = new TongueCamp();
        for (int n : nights) {
            x.helper(n);
        }
        return x;
    }

    private static void watches() {
        TongueCamp x = helped(0b1, 0b10, 0);
        plan(x, 1, 1, 0, 2);
        plan(x, 3, 1, 0, 2, 1, 1);
        plan(x, 3, 2, 0, 6, 5, 3);
        Check.due("three on night 0", x.watch(1, 3, 0), -1);
        TongueCamp y = helped(0, 0, 0);
        plan(y, 14, 3, 0, 7, 7, 7, 7, 7, 7, 7, 7, 7, 7, 7, 7, 7, 7);
        TongueCamp z = helped(1 << 13, 1 << 13);
        Check.due("nobody on the last night", z.watch(14, 1, 0), -1);
        Check.due("13 nights", z.watch(13, 1, 0), 13);
    }

    private static void rests() {
        TongueCamp x = helped(0, 0, 0);
        plan(x, 4, 1, 1, 1, 2, 1, 2);
        plan(x, 5, 1, 2, 1, 2, 4, 1, 2);
        Check.due("two cannot rest", x.watch(2, 2, 1), -1);
        TongueCamp y = helped(0, 0);
        Check.due("two nights' rest of two", y.watch(3, 1, 2), -1);
        Check.due("two nights are enough", y.watch(2, 1, 2), 2);
        // The first that comes to mind for night 0 is missed on night 2, where the others can't.
        TongueCamp z = helped(0, 0b100, 0b100, 0b100);
        plan(z, 3, 1, 2, 2, 4, 1);
        plan(z, 3, 1, 1, 1, 2, 1);
        TongueCamp w = helped(0, 0, 0, 0, 0, 0);
        plan(w, 4, 3, 1, 7, 56, 7, 56);
        plan(w, 4, 2, 2, 3, 12, 48, 3);
        Check.due("three of six, two nights' rest", w.watch(3, 3, 2), -1);
    }

    private static void atHand() {
        TongueCamp x = helped(0, 0);
        Check.due("none at hand", x.watcher(0), -1);
        Check.due("watch", x.watch(2, 1, 1), 2);
        int[][] wrong = {{0, 1, 0}, {15, 1, 0}, {1, 0, 0}, {1, 4, 0}, {1, 1, -1}, {1, 1, 3}, {3, 1, 2}, {-1, 1, 0}};
        for (int[] n : wrong) {
            Check.due("watch(" + n[0] + ", " + n[1] + ", " + n[2] + ")", x.watch(n[0], n[1], n[2]), -1);
            Check.due("at hand is what was", x.watcher(0) * 10 + x.watcher(1), 12);
            Check.due("two nights at hand", x.watcher(2), -1);
        }
        TongueCamp six = helped(0, 0, 0, 0, 0, 0);
        Check.due("w 4 of six", six.watch(1, 4, 0), -1);
        Check.due("w 0 of six", six.watch(1, 0, 0), -1);
        Check.due("k 3 of six", six.watch(1, 1, 3), -1);
        Check.due("n 15 of six", six.watch(15, 1, 0), -1);
        x.helper(0);
        Check.due("a new helper changes nothing", x.watcher(1), 2);
    }

    private static TongueCamp many(int children) {
        TongueCamp x = new TongueCamp();
        for (int i = 0; i < children; i++) {
            x.child(0, 10, false);
        }
        return x;
    }

    private static void tables() {
        TongueCamp x = many(10);
        Check.due("child 7, round 0", x.table(3, 4, 7, 0), 1);
        Check.due("child 7, round 2", x.table(3, 4, 7, 2), (1 + 2 * 3) % 3);
        Check.due("child 9, round 19", x.table(5, 2, 9, 19), (4 + 19) % 5);
        Check.due("seats 2 * 5", x.table(2, 5, 9, 1), (1 + 4) % 2);
        Check.due("too few seats", x.table(3, 3, 0, 0), -1);
        Check.due("t 1", x.table(1, 8, 0, 0), -1);
        Check.due("t 13", x.table(13, 8, 0, 0), -1);
        Check.due("t 0", x.table(0, 8, 0, 0), -1);
        Check.due("s 1", x.table(12, 1, 0, 0), -1);
        Check.due("s 9", x.table(12, 9, 0, 0), -1);
        Check.due("s 0", x.table(12, 0, 0, 0), -1);
        Check.due("far numbers", x.table(65536, 65536, 0, 0), -1);
        Check.due("round -1", x.table(3, 4, 0, -1), -1);
        Check.due("round 20", x.table(3, 4, 0, 20), -1);
        Check.due("child 10", x.table(3, 4, 10, 0), -1);
        Check.due("child -1", x.table(3, 4, -1, 0), -1);
        Check.due("t 12, s 8", x.table(12, 8, 9, 1), 2);
        Check.due("no children", many(0).table(2, 2, 0, 0), -1);
    }

    private static void met() {
        TongueCamp x = many(5);
        // Round 0: 0 1 2 | 3 4; round 1 adds i % 3: 0, 1, 2 -> 0, 1, 0 and 3, 4 -> 1, 0.
        Check.due("round 0: pairs", x.met(2, 3, 1, 0), 4);
        Check.due("round 0: fewest", x.met(2, 3, 1, 1), 1);
        Check.due("round 0: most", x.met(2, 3, 1, 2), 2);
        // Round 1: 0 2 4 | 1 3: 0-4, 2-4, 1-3 are new.
        Check.due("two rounds: pairs", x.met(2, 3, 2, 0), 7);
        Check.due("two rounds: fewest", x.met(2, 3, 2, 1), 2);
        Check.due("two rounds: most", x.met(2, 3, 2, 2), 3);
        Check.due("m 0", x.met(2, 3, 0, 0), -1);
        Check.due("m 21", x.met(2, 3, 21, 0), -1);
        Check.due("m 20", x.met(2, 3, 20, 0), 7);
        Check.due("what 3", x.met(2, 3, 1, 3), -1);
        Check.due("what -1", x.met(2, 3, 1, -1), -1);
        Check.due("too few seats", x.met(2, 2, 1, 0), -1);
        Check.due("t 1", x.met(1, 8, 1, 0), -1);
        Check.due("s 9", x.met(2, 9, 1, 0), -1);
        Check.due("t 13", x.met(13, 2, 1, 0), -1);
        Check.due("s 1", x.met(12, 1, 1, 0), -1);
        Check.due("no children", many(0).met(2, 2, 1, 0), -1);
        Check.due("one child: pairs", many(1).met(2, 2, 1, 0), 0);
        Check.due("one child: fewest", many(1).met(2, 2, 1, 1), 0);
        Check.due("one child: most", many(1).met(2, 2, 1, 2), 0);
        // Round 0 of three children at two seats: 0 1 | 2.
        Check.due("last meets nobody", many(3).met(2, 2, 1, 1), 0);
        Check.due("first meets most", many(3).met(2, 2, 1, 2), 1);
        // Held against the plain words of the document.
        Check.due("9 at 3 times 3", many(9).met(3, 3, 3, 0), bruteMet(9, 3, 3, 3));
        Check.due("24 at 5 times 5", many(24).met(5, 5, 20, 0), bruteMet(24, 5, 5, 20));
    }

    private static int bruteMet(int children, int t, int s, int m) {
        int pairs = 0;
        for (int a = 0; a < children; a++) {
            for (int b = 0; b < a; b++) {
                boolean met = false;
                for (int r = 0; r < m; r++) {
                    met |= (a / s + r * (a % s)) % t == (b / s + r * (b % s)) % t;
                }
                pairs += met ? 1 : 0;
            }
        }
        return pairs;
    }
}
