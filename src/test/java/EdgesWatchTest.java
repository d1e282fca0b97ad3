/** Edges of promises 21 to 25, sentence by sentence: helpers, watches, tables, who met. */
public final class EdgesWatchTest {
    private static final int LEAST = Integer.MIN_VALUE;
    private static final int MOST = Integer.MAX_VALUE;

    public static void main(String[] args) {
        nightsOff();
        helpers6();
        refusedHelpers();
        numberOfNights();
        numberOfHelpers();
        numberOfRests();
        enoughHelpers();
        eachNightOff();
        restsOfOne();
        restsOfTwo();
        leastPlan();
        noPlan();
        refusedWatches();
        nightsAtHand();
        numberOfTables();
        numberOfSeats();
        enoughSeats();
        childrenAtTables();
        rounds();
        tablesAreTold();
        refusedTables();
        metRounds();
        metWhat();
        metTablesAndSeats();
        metOfFew();
        metOnceInSeveral();
        refusedMet();
        Check.finish("EdgesWatchTest");
    }

    // Promise 21: "NONE: there are 6, or other bits."

    private static void nightsOff() {
        for (int nights : new int[] {LEAST, -16383, -2, -1, 16384, 16385, 32767, 1 << 20, MOST}) {
            TongueCamp x = new TongueCamp();
            Check.due("helper(" + nights + ")", x.helper(nights), -1);
            Check.due("no helper by " + nights, x.count(3), 0);
        }
        for (int nights : new int[] {0, 1, 2, 8191, 8192, 16382, 16383}) {
            TongueCamp x = new TongueCamp();
            Check.due("helper(" + nights + ")", x.helper(nights), 0);
            Check.due("a helper by " + nights, x.count(3), 1);
        }
    }

    private static void helpers6() {
        TongueCamp x = Camps.helpers(0, 0, 0, 0);
        Check.due("the 5th", x.helper(0), 4);
        Check.due("none for wrong bits", x.helper(16384), -1);
        Check.due("the 6th", x.helper(16383), 5);
        Check.due("the 7th", x.helper(0), -1);
        Check.due("the 7th, wrong, too", x.helper(-1), -1);
        Check.due("6 helpers", x.count(3), 6);
        Check.due("the 6th can't on any night", x.watch(1, 3, 1) * 100 + x.watcher(0), 107);
    }

    private static void refusedHelpers() {
        Refused.none("a 7th helper", () -> Camps.helpers(1, 2, 4, 8, 16, 32), x -> x.helper(0));
        Refused.none("helper(-1)", Camps::rich, x -> x.helper(-1));
        Refused.none("helper(16384)", Camps::rich, x -> x.helper(16384));
    }

    // Promise 22: "NONE: other numbers, or there is no such plan (at hand is what was)."

    private static void plan(TongueCamp x, int n, int w, int k, int... sets) {
        String call = "watch(" + n + ", " + w + ", " + k + ")";
        Check.due(call, x.watch(n, w, k), sets.length == 0 ? -1 : n);
        for (int night = 0; night < sets.length; night++) {
            Check.due(call + ": night " + night, x.watcher(night), sets[night]);
        }
        Check.due(call + ": night " + sets.length, x.watcher(sets.length), -1);
    }

    /** "for n nights, 1 .. 14" */
    private static void numberOfNights() {
        for (int n : new int[] {LEAST, -14, -2, -1, 0, 15, 16, 100, MOST}) {
            plan(Camps.helpers(0, 0, 0, 0, 0, 0), n, 1, 0);
        }
        for (int n = 1; n <= 14; n++) {
            TongueCamp x = Camps.helpers(0, 0, 0, 0, 0, 0);
            Check.due("watch of " + n, x.watch(n, 1, 0), n);
            Check.due("the first night of " + n, x.watcher(0), 1);
            Check.due("the last night of " + n, x.watcher(n - 1), 1);
            Check.due("the night behind " + n, x.watcher(n), -1);
        }
    }

    /** "by w HELPERS each, 1 .. 3" */
    private static void numberOfHelpers() {
        for (int w : new int[] {LEAST, -3, -1, 0, 4, 5, 6, MOST}) {
            plan(Camps.helpers(0, 0, 0, 0, 0, 0), 1, w, 0);
        }
        plan(Camps.helpers(0, 0, 0, 0, 0, 0), 1, 1, 0, 1);
        plan(Camps.helpers(0, 0, 0, 0, 0, 0), 1, 2, 0, 3);
        plan(Camps.helpers(0, 0, 0, 0, 0, 0), 1, 3, 0, 7);
    }

    /** "k nights of rest, 0 .. 2" */
    private static void numberOfRests() {
        for (int k : new int[] {LEAST, -2, -1, 3, 4, 14, MOST}) {
            plan(Camps.helpers(0, 0, 0, 0, 0, 0), 1, 1, k);
        }
        plan(Camps.helpers(0, 0, 0, 0, 0, 0), 5, 1, 0, 1, 1, 1, 1, 1);
        plan(Camps.helpers(0, 0, 0, 0, 0, 0), 5, 1, 1, 1, 2, 1, 2, 1);
        plan(Camps.helpers(0, 0, 0, 0, 0, 0), 5, 1, 2, 1, 2, 4, 1, 2);
    }

    /** Of w helpers a night with k nights of rest, (k + 1) * w are enough, one fewer is not. */
    private static void enoughHelpers() {
        plan(new TongueCamp(), 1, 1, 0);
        for (int w = 1; w <= 3; w++) {
            for (int k = 0; k <= 2; k++) {
                int enough = (k + 1) * w;
                for (int many = Math.max(0, enough - 1); many <= Math.min(6, enough + 1); many++) {
                    TongueCamp x = Camps.helpers(new int[many]);
                    String call = many + " helpers: watch(14, " + w + ", " + k + ")";
                    Check.due(call, x.watch(14, w, k), many < enough ? -1 : 14);
                    Check.due(call + ": the first night", x.watcher(0), many < enough ? -1 : (1 << w) - 1);
                    Check.due(call + ": the last night", x.watcher(13),
                        many < enough ? -1 : (1 << w) - 1 << 13 % (k + 1) * w);
                }
            }
        }
        // As many nights as rests are gone through without them.
        plan(Camps.helpers(0, 0), 2, 1, 2, 1, 2);
        plan(Camps.helpers(0, 0), 3, 1, 2);
        plan(Camps.helpers(0), 1, 1, 2, 1);
        plan(Camps.helpers(0), 2, 1, 1);
        plan(Camps.helpers(0, 0, 0, 0, 0, 0), 2, 3, 2, 7, 56);
        plan(Camps.helpers(0, 0, 0, 0, 0, 0), 3, 3, 2);
    }

    /** "NIGHTS, 0 .. 13, on which they can't (bits)" */
    private static void eachNightOff() {
        for (int night = 0; night <= 13; night++) {
            TongueCamp x = Camps.helpers(1 << night, 0);
            Check.due("off on " + night, x.watch(14, 1, 0), 14);
            for (int i = 0; i <= 13; i++) {
                Check.due("off on " + night + ": night " + i, x.watcher(i), i == night ? 2 : 1);
            }
            TongueCamp y = Camps.helpers(1 << night);
            Check.due("alone, off on " + night, y.watch(14, 1, 0), -1);
            Check.due("alone, up to " + night, y.watch(night + 1, 1, 0), -1);
            if (night > 0) {
                Check.due("alone, before " + night, y.watch(night, 1, 0), night);
            }
            TongueCamp z = Camps.helpers(16383 ^ 1 << night);
            Check.due("alone, on " + night + " only", z.watch(night + 1, 1, 0), night == 0 ? 1 : -1);
        }
    }

    /** "with k nights of rest, 0 .. 2, behind each watch": the night before and the one behind them are free. */
    private static void restsOfOne() {
        // 1 can on night 0 alone: 0 watches on 1 and 2 then, if it needs no rest.
        plan(Camps.helpers(0, 0b110), 3, 1, 0, 1, 1, 1);
        plan(Camps.helpers(0, 0b110), 3, 1, 1);
        plan(Camps.helpers(0, 0b101), 3, 1, 1, 1, 2, 1);
        plan(Camps.helpers(0b1, 0b10), 2, 1, 1, 2, 1);
        plan(Camps.helpers(0b10, 0b1), 2, 1, 1, 1, 2);
        plan(Camps.helpers(0b1, 0b1, 0b10), 2, 1, 1, 4, 1);
        // Each WATCH begins with all of them rested, whoever watched last by the one before.
        TongueCamp x = Camps.helpers(0);
        plan(x, 1, 1, 1, 1);
        plan(x, 1, 1, 1, 1);
        plan(x, 1, 1, 2, 1);
        TongueCamp y = Camps.helpers(0, 0);
        plan(y, 2, 1, 1, 1, 2);
        plan(y, 2, 1, 1, 1, 2);
        plan(y, 2, 2, 0, 3, 3);
        plan(y, 2, 1, 2, 1, 2);
    }

    private static void restsOfTwo() {
        plan(Camps.helpers(0, 0b1101, 0b1011), 4, 1, 2, 1, 2, 4, 1);
        plan(Camps.helpers(0, 0b101, 0b101), 3, 1, 2);
        plan(Camps.helpers(0, 0b1, 0b1011), 4, 1, 2, 1, 2, 4, 1);
        plan(Camps.helpers(0, 0, 0b1101), 3, 1, 2, 1, 4, 2);
        plan(Camps.helpers(0, 0, 0b1011), 4, 1, 2, 1, 2, 4, 1);
        plan(Camps.helpers(0, 0, 0b0011, 0b1011), 4, 1, 2, 1, 2, 4, 1);
        plan(Camps.helpers(0b1000, 0, 0b0011), 4, 1, 2, 2, 1, 4, 2);
    }

    /** "of all plans the one whose sets (bits), night by night, are least" */
    private static void leastPlan() {
        plan(Camps.helpers(0, 0, 0), 3, 2, 0, 3, 3, 3);
        plan(Camps.helpers(0b1, 0, 0), 1, 1, 0, 2);
        plan(Camps.helpers(0b1, 0, 0), 1, 2, 0, 6);
        plan(Camps.helpers(0b1, 0b1, 0), 1, 1, 0, 4);
        // Sets as numbers: 0 and 3 are less than 2 and 3, not more than 1 and 2.
        plan(Camps.helpers(0, 0b1, 0, 0), 1, 2, 0, 5);
        plan(Camps.helpers(0, 0b1, 0b1, 0), 1, 2, 0, 9);
        plan(Camps.helpers(0, 0, 0, 0, 0), 2, 2, 1, 3, 12);
        // The first night takes more, for the second one's sake.
        plan(Camps.helpers(0, 0b10), 2, 1, 1, 2, 1);
        plan(Camps.helpers(0, 0b10, 0b10, 0), 2, 2, 1, 6, 9);
        plan(Camps.helpers(0, 0b100, 0b100), 3, 1, 2, 2, 4, 1);
        plan(Camps.helpers(0b1000, 0b1000, 0), 4, 1, 2, 4, 1, 2, 4);
        plan(Camps.helpers(0b1000, 0, 0b1000), 4, 1, 2, 2, 1, 4, 2);
        // The last night's sake, thirteen nights before.
        plan(Camps.helpers(0, 1 << 13, 0), 14, 1, 1, 1, 2, 1, 2, 1, 2, 1, 2, 1, 2, 1, 2, 1, 4);
        plan(Camps.helpers(0, 1 << 13), 14, 1, 1, 2, 1, 2, 1, 2, 1, 2, 1, 2, 1, 2, 1, 2, 1);
        plan(Camps.helpers(0, 1 << 13, 0), 14, 1, 2, 1, 4, 2, 1, 4, 2, 1, 4, 2, 1, 4, 2, 1, 4);
    }

    private static void noPlan() {
        plan(Camps.helpers(16383), 1, 1, 0);
        plan(Camps.helpers(16382), 1, 1, 0, 1);
        plan(Camps.helpers(16382), 2, 1, 0);
        plan(Camps.helpers(0b10, 0b10), 2, 1, 0);
        plan(Camps.helpers(0b100, 0b100, 0b100), 3, 1, 1);
        plan(Camps.helpers(0, 0), 1, 3, 0);
        // However many plans there are up to the last night.
        int last = 1 << 13;
        for (int w = 1; w <= 3; w++) {
            for (int k = 0; k <= 2; k++) {
                plan(Camps.helpers(last, last, last, last, last, last), 14, w, k);
            }
        }
        plan(Camps.helpers(0, 0, 0), 1, 3, 0, 7);
        plan(Camps.helpers(0, 0, 1), 1, 3, 0);
        plan(Camps.helpers(0, 0, 2), 1, 3, 0, 7);
        plan(Camps.helpers(0, 0, 2), 2, 3, 0);
    }

    private static void refusedWatches() {
        int[][] wrong = {{0, 1, 0}, {15, 1, 0}, {2, 0, 0}, {2, 4, 0}, {2, 1, -1}, {2, 1, 3}, {14, 3, 2}, {2, 3, 0},
            {1, 3, 0}, {-1, 1, 0}};
        for (int[] n : wrong) {
            String call = "watch(" + n[0] + ", " + n[1] + ", " + n[2] + ")";
            Refused.none(call, Camps::rich, x -> x.watch(n[0], n[1], n[2]));
            TongueCamp x = Camps.helpers(0, 0b101, 0b1);
            Check.due("before " + call, x.watch(3, 1, 1), 3);
            Check.due(call, x.watch(n[0], n[1], n[2]), -1);
            Check.due("behind " + call, x.watcher(0) * 100 + x.watcher(1) * 10 + x.watcher(2), 121);
            Check.due("nights behind " + call, x.watcher(3), -1);
        }
        // Those that go well for some nights, and then not, leave nothing of what was tried.
        for (int k = 0; k <= 1; k++) {
            TongueCamp x = Camps.helpers(0b1000, 0b1000, 0b1000);
            Check.due("three nights, rest " + k, x.watch(3, 1, k), 3);
            Check.due("none on the fourth, rest " + k, x.watch(4, 1, k), -1);
            Check.due("with two, rest " + k, x.watch(4, 2, k), -1);
            Check.due("as it was, rest " + k, x.watcher(0) * 100 + x.watcher(1) * 10 + x.watcher(2), k == 0 ? 111 : 121);
            Check.due("no fourth night, rest " + k, x.watcher(3), -1);
        }
    }

    // Promise 23: "Who watches on a night of WATCH at hand: bits. NONE: there is none such."

    private static void nightsAtHand() {
        TongueCamp x = new TongueCamp();
        for (int night = -1; night <= 14; night++) {
            Check.due("none at hand, night " + night, x.watcher(night), -1);
        }
        x.helper(0);
        x.watch(14, 1, 0);
        for (int night = 0; night <= 13; night++) {
            Check.due("of 14, night " + night, x.watcher(night), 1);
        }
        for (int night : new int[] {LEAST, -2, -1, 14, 15, MOST}) {
            Check.due("of 14, night " + night, x.watcher(night), -1);
        }
        x.watch(3, 1, 0);
        for (int night = 0; night <= 13; night++) {
            Check.due("of 3, night " + night, x.watcher(night), night < 3 ? 1 : -1);
        }
        x.watch(1, 1, 0);
        Check.due("of 1, night 0", x.watcher(0), 1);
        Check.due("of 1, night 1", x.watcher(1), -1);
        x.helper(0);
        Check.due("a new helper changes no plan", x.watcher(0), 1);
        Refused.none("watcher(3) of 3", Camps::rich, y -> y.watcher(3));
        Refused.answers("watcher(2) of 3", 2, Camps::rich, y -> y.watcher(2));
    }

    // Promise 24: "NONE: other numbers, or there are too few SEATS." Term 4: "t of them, 2 .. 12"

    private static void numberOfTables() {
        TongueCamp x = Camps.children(2);
        for (int t : new int[] {LEAST, -12, -2, -1, 0, 1, 13, 14, 24, MOST}) {
            Check.due("table with t " + t, x.table(t, 8, 0, 0), -1);
            Check.due("met with t " + t, x.met(t, 8, 1, 0), -1);
        }
        for (int t = 2; t <= 12; t++) {
            Check.due("table with t " + t, x.table(t, 8, 1, 19), 19 % t);
            Check.due("met with t " + t, x.met(t, 8, 1, 0), 1);
        }
    }

    /** "with s SEATS, 2 .. 8" */
    private static void numberOfSeats() {
        TongueCamp x = Camps.children(3);
        for (int s : new int[] {LEAST, -8, -2, -1, 0, 1, 9, 10, 24, MOST}) {
            Check.due("table with s " + s, x.table(12, s, 0, 0), -1);
            Check.due("met with s " + s, x.met(12, s, 1, 0), -1);
        }
        for (int s = 2; s <= 8; s++) {
            Check.due("table with s " + s, x.table(12, s, 2, 3), s == 2 ? 1 : 6);
            Check.due("met with s " + s, x.met(12, s, 1, 0), s == 2 ? 1 : 3);
        }
    }

    /** "t * s as many as there are CHILDREN or more" */
    private static void enoughSeats() {
        for (int many = 1; many <= 24; many++) {
            TongueCamp x = Camps.children(many);
            for (int t = 2; t <= 12; t++) {
                for (int s = 2; s <= 8; s++) {
                    boolean enough = t * s >= many;
                    String what = many + " at " + t + " * " + s;
                    if (t * s >= many - 1 && t * s <= many + 1 && many > 4) {
                        Check.due("table, " + what, x.table(t, s, many - 1, 0), enough ? (many - 1) / s : -1);
                        Check.due("met, " + what, x.met(t, s, 1, 1) == -1, !enough);
                    }
                }
            }
        }
        TongueCamp y = Camps.children(24);
        Check.due("65536 * 65536", y.table(65536, 65536, 0, 0), -1);
        Check.due("23 are no 24", y.table(11, 2, 0, 0), -1);
        Check.due("24 are", y.table(12, 2, 0, 0), 0);
        Check.due("22 and 24, met", y.met(11, 2, 1, 0), -1);
        Check.due("24 and 24, met", y.met(12, 2, 1, 0), 12);
    }

    private static void childrenAtTables() {
        TongueCamp x = Camps.children(9);
        for (int child : new int[] {LEAST, -2, -1, 9, 10, 24, MOST}) {
            Check.due("table of child " + child, x.table(3, 3, child, 0), -1);
        }
        int[] due = {0, 0, 0, 1, 1, 1, 2, 2, 2};
        for (int child = 0; child < 9; child++) {
            Check.due("table of child " + child, x.table(3, 3, child, 0), due[child]);
        }
        Check.due("nobody", new TongueCamp().table(2, 2, 0, 0), -1);
    }

    /** "in a ROUND, 0 .. 19" */
    private static void rounds() {
        TongueCamp x = Camps.children(9);
        for (int round : new int[] {LEAST, -20, -2, -1, 20, 21, 100, MOST}) {
            for (int child = 0; child < 9; child++) {
                Check.due("table of " + child + " in round " + round, x.table(5, 2, child, round), -1);
            }
        }
        for (int round = 0; round <= 19; round++) {
            Check.due("table in round " + round, x.table(5, 2, 1, round), round % 5);
        }
    }

    // "CHILD i sits in ROUND r at TABLE (i / s + r * (i % s)) % t"

    private static void tablesAreTold() {
        TongueCamp x = Camps.children(24);
        Check.due("i % s is 0", x.table(5, 5, 20, 19), 4);
        Check.due("i / s is 0", x.table(5, 5, 4, 19), 76 % 5);
        Check.due("the last", x.table(5, 5, 23, 19), (4 + 57) % 5);
        Check.due("12 * 8", x.table(12, 8, 23, 19), (2 + 19 * 7) % 12);
        Check.due("more tables than are sat at", x.table(12, 8, 23, 0), 2);
        Check.due("3 * 8", x.table(3, 8, 15, 1), (1 + 7) % 3);
        Check.due("up to t", x.table(3, 8, 9, 1), 2);
        Check.due("t itself is 0", x.table(3, 8, 10, 1), 0);
    }

    private static void refusedTables() {
        Refused.none("table, too few seats", Camps::rich, x -> x.table(3, 2, 0, 0));
        Refused.none("table, round 20", Camps::rich, x -> x.table(3, 3, 0, 20));
        Refused.answers("table", 2, Camps::rich, x -> x.table(3, 3, 7, 0));
    }

    // Promise 25: "Of ROUNDS 0 .. m - 1", "m 1 .. 20". "NONE: other numbers, no CHILDREN, too few SEATS, or for another what."

    private static void metRounds() {
        TongueCamp x = Camps.children(5);
        for (int m : new int[] {LEAST, -20, -1, 0, 21, 22, 100, MOST}) {
            for (int what = 0; what <= 2; what++) {
                Check.due("met in " + m + " rounds, what " + what, x.met(2, 3, m, what), -1);
            }
        }
        // Round 0: 0 1 2 and 3 4; round 1: 0 2 4 and 1 3; round 2 is as round 0.
        for (int m = 1; m <= 20; m++) {
            Check.due("pairs in " + m, x.met(2, 3, m, 0), m == 1 ? 4 : 7);
            Check.due("fewest in " + m, x.met(2, 3, m, 1), m == 1 ? 1 : 2);
            Check.due("most in " + m, x.met(2, 3, m, 2), m == 1 ? 2 : 3);
        }
        // At 11 tables of 2, children 0 and 21 sit at one table in round r where r is 1 behind a multiple of 11.
        TongueCamp y = Camps.children(22);
        Check.due("two rounds", y.met(11, 2, 2, 0), 22);
        for (int m = 1; m <= 20; m++) {
            Check.due("each meets one more a round: " + m, y.met(11, 2, m, 1), Math.min(m, 11));
            Check.due("as all do: " + m, y.met(11, 2, m, 2), Math.min(m, 11));
        }
    }

    private static void metWhat() {
        TongueCamp x = Camps.children(5);
        for (int what : new int[] {LEAST, -2, -1, 3, 4, MOST}) {
            Check.due("met, what " + what, x.met(2, 3, 2, what), -1);
        }
        Check.due("met, what 0", x.met(2, 3, 2, 0), 7);
        Check.due("met, what 1", x.met(2, 3, 2, 1), 2);
        Check.due("met, what 2", x.met(2, 3, 2, 2), 3);
    }

    private static void metTablesAndSeats() {
        TongueCamp x = Camps.children(24);
        Check.due("12 * 8, all that sit together", x.met(12, 8, 1, 0), 3 * 28);
        Check.due("12 * 8, fewest", x.met(12, 8, 1, 1), 7);
        Check.due("12 * 8, most", x.met(12, 8, 1, 2), 7);
        Check.due("12 * 2", x.met(12, 2, 1, 2), 1);
        Check.due("5 * 5, the last four", x.met(5, 5, 1, 1), 3);
        Check.due("5 * 5, the others", x.met(5, 5, 1, 2), 4);
        Check.due("5 * 5, pairs", x.met(5, 5, 1, 0), 46);
        // At 5 tables of 5, two of one place never meet, all others do in 5 rounds.
        Check.due("5 * 5, four rounds, pairs", x.met(5, 5, 4, 0) < x.met(5, 5, 5, 0), true);
        Check.due("5 * 5, five rounds, pairs", x.met(5, 5, 5, 0), 276 - 4 * 10 - 6);
        Check.due("5 * 5, twenty rounds, pairs", x.met(5, 5, 20, 0), 276 - 4 * 10 - 6);
        Check.due("5 * 5, twenty rounds, fewest", x.met(5, 5, 20, 1), 19);
        Check.due("5 * 5, twenty rounds, most", x.met(5, 5, 20, 2), 20);
    }

    private static void metOfFew() {
        for (int what = 0; what <= 2; what++) {
            Check.due("no children, what " + what, new TongueCamp().met(2, 2, 1, what), -1);
            Check.due("one child, what " + what, Camps.children(1).met(2, 2, 20, what), 0);
            Check.due("two children, what " + what, Camps.children(2).met(2, 2, 1, what), 1);
        }
        TongueCamp x = Camps.children(3);
        Check.due("three children, pairs", x.met(2, 2, 1, 0), 1);
        Check.due("three children, fewest", x.met(2, 2, 1, 1), 0);
        Check.due("three children, most", x.met(2, 2, 1, 2), 1);
        // In round 1: 0 at 0, 1 at 1, 2 at 1.
        Check.due("two rounds, pairs", x.met(2, 2, 2, 0), 2);
        Check.due("two rounds, fewest", x.met(2, 2, 2, 1), 1);
        Check.due("two rounds, most", x.met(2, 2, 2, 2), 2);
        // Round 0: 0 1, 2 3, 4; round 1: 0, 1 2, 3 4; round 2: 0, 2, 1 4, 3.
        TongueCamp y = Camps.children(5);
        Check.due("the first has the fewest", y.met(4, 2, 3, 1), 1);
        Check.due("the second has the most", y.met(4, 2, 3, 2), 3);
        Check.due("five pairs", y.met(4, 2, 3, 0), 5);
        Check.due("the first has the most at first", Camps.children(5).met(2, 4, 1, 2), 3);
        Check.due("the last has the fewest at first", Camps.children(5).met(2, 4, 1, 1), 0);
    }

    /** "MET: two that sit at one TABLE in one of ROUNDS": once or in all of them is one pair. */
    private static void metOnceInSeveral() {
        // 12 tables, 8 seats: 0 and 8 are of one place at tables 0 and 1, they never meet.
        TongueCamp x = Camps.children(9);
        Check.due("eight at one table", x.met(12, 8, 1, 0), 28);
        Check.due("the ninth meets nobody at first", x.met(12, 8, 1, 1), 0);
        // In round 1 child i sits at table i, child 8 at table 1: it meets 1.
        Check.due("it meets 1", x.met(12, 8, 2, 0), 29);
        Check.due("it has one then", x.met(12, 8, 2, 1), 1);
        Check.due("1 has eight", x.met(12, 8, 2, 2), 8);
    }

    private static void refusedMet() {
        Refused.none("met, too few seats", Camps::rich, x -> x.met(3, 2, 1, 0));
        Refused.none("met, 21 rounds", Camps::rich, x -> x.met(3, 3, 21, 0));
        Refused.none("met, what 3", Camps::rich, x -> x.met(3, 3, 1, 3));
        Refused.answers("met", 7, Camps::rich, x -> x.met(3, 3, 1, 0));
    }
}
