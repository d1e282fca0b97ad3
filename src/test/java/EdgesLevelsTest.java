/** Edges of promises 11 and 12, sentence by sentence: tasks, levels, doubts, groups. */
public final class EdgesLevelsTest {
    private static final int LEAST = Integer.MIN_VALUE;
    private static final int MOST = Integer.MAX_VALUE;

    public static void main(String[] args) {
        hardnesses();
        childrenOfTasks();
        refusedTasks();
        passedAtLow();
        passedAtHigh();
        failedAtHigh();
        failedAtLow();
        doubtsAtTheEnds();
        next();
        numberOfGroups();
        sizes();
        runsAtLeast();
        runsAtMost();
        groupsOfNobody();
        groupsOf24();
        refusedGroups();
        rowOfLevels();
        widths();
        tenToOne();
        tenToOneTurned();
        thoseWhoHadNone();
        fewestFirst();
        Check.finish("EdgesLevelsTest");
    }

    /** One child with the span LOW .. HIGH, which no doubt has made. */
    private static TongueCamp span(int low, int high) {
        TongueCamp x = new TongueCamp();
        x.child(0, 10, false);
        setSpan(x, 0, low, high);
        return x;
    }

    private static void setSpan(TongueCamp x, int child, int low, int high) {
        if (low > 0) {
            x.task(child, low, true);
        }
        if (high < 10) {
            x.task(child, high + 1, false);
        }
    }

    /** A task of a child with a span, and the span and the doubts that are due then. */
    private static void task(int low, int high, int hardness, boolean passed, int dueLow, int dueHigh, int doubts) {
        TongueCamp x = span(low, high);
        String call = low + " .. " + high + (passed ? ", passed " : ", failed ") + hardness;
        Check.due(call, x.task(0, hardness, passed), dueHigh - dueLow);
        Check.due(call + ": low", x.tell(0, 4), dueLow);
        Check.due(call + ": high", x.tell(0, 5), dueHigh);
        Check.due(call + ": doubts", x.tell(0, 6), doubts);
    }

    // Promise 11: "NONE: there is none such, or another hardness." Term 2: "a hardness d, 1 .. 10"

    private static void hardnesses() {
        for (int d = 1; d <= 10; d++) {
            task(0, 10, d, true, d, 10, 0);
            task(0, 10, d, false, 0, d - 1, 0);
        }
        for (int d : new int[] {LEAST, -10, -2, -1, 0, 11, 12, 100, MOST}) {
            TongueCamp x = span(3, 7);
            Check.due("passed " + d, x.task(0, d, true), -1);
            Check.due("failed " + d, x.task(0, d, false), -1);
            Check.due("low stays by " + d, x.tell(0, 4), 3);
            Check.due("high stays by " + d, x.tell(0, 5), 7);
            Check.due("no doubt by " + d, x.tell(0, 6), 0);
        }
    }

    private static void childrenOfTasks() {
        TongueCamp x = Camps.children(3);
        for (int child : new int[] {LEAST, -2, -1, 3, 4, 24, MOST}) {
            Check.due("child " + child + ", passed", x.task(child, 5, true), -1);
            Check.due("child " + child + ", failed", x.task(child, 5, false), -1);
        }
        Check.due("the first", x.task(0, 4, true), 6);
        Check.due("the last", x.task(2, 7, true), 3);
        Check.due("the one between is as it was", x.tell(1, 5) * 100 + x.tell(1, 4), 1000);
        Check.due("nobody", new TongueCamp().task(0, 5, true), -1);
        TongueCamp y = Camps.children(24);
        Check.due("child 23", y.task(23, 1, true), 9);
        Check.due("child 24", y.task(24, 1, true), -1);
    }

    private static void refusedTasks() {
        Refused.none("child 8", Camps::rich, x -> x.task(8, 5, true));
        Refused.none("child -1", Camps::rich, x -> x.task(-1, 5, false));
        for (int d : new int[] {0, 11}) {
            Refused.none("passed " + d, Camps::rich, x -> x.task(0, d, true));
            Refused.none("failed " + d, Camps::rich, x -> x.task(0, d, false));
        }
    }

    // "Passed, LOW is d at least"

    private static void passedAtLow() {
        task(4, 8, 3, true, 4, 8, 0);
        task(4, 8, 4, true, 4, 8, 0);
        task(4, 8, 5, true, 5, 8, 0);
        task(4, 8, 1, true, 4, 8, 0);
        task(0, 8, 1, true, 1, 8, 0);
    }

    /** "if nothing would be left": one number left is something. */
    private static void passedAtHigh() {
        for (int high = 0; high <= 9; high++) {
            task(0, high, high + 1, true, high, high + 1, 1);
            if (high > 0) {
                task(0, high, high, true, high, high, 0);
            }
            if (high > 1) {
                task(0, high, high - 1, true, high - 1, high, 0);
            }
        }
        task(0, 10, 10, true, 10, 10, 0);
        task(10, 10, 10, true, 10, 10, 0);
        task(2, 4, 10, true, 9, 10, 1);
        task(2, 4, 6, true, 5, 6, 1);
        task(4, 4, 4, true, 4, 4, 0);
        task(4, 4, 5, true, 4, 5, 1);
    }

    // "failed, HIGH is d - 1 at most"

    private static void failedAtHigh() {
        task(2, 6, 8, false, 2, 6, 0);
        task(2, 6, 7, false, 2, 6, 0);
        task(2, 6, 6, false, 2, 5, 0);
        task(2, 6, 10, false, 2, 6, 0);
        task(2, 10, 10, false, 2, 9, 0);
    }

    private static void failedAtLow() {
        for (int low = 1; low <= 10; low++) {
            task(low, 10, low, false, low - 1, low, 1);
            if (low < 10) {
                task(low, 10, low + 1, false, low, low, 0);
            }
            if (low < 9) {
                task(low, 10, low + 2, false, low, low + 1, 0);
            }
        }
        task(0, 10, 1, false, 0, 0, 0);
        task(0, 0, 1, false, 0, 0, 0);
        task(6, 8, 1, false, 0, 1, 1);
        task(6, 8, 4, false, 3, 4, 1);
        task(6, 6, 7, false, 6, 6, 0);
        task(6, 6, 6, false, 5, 6, 1);
    }

    /** "it is d - 1 .. d instead, and the CHILD has one DOUBT more": 0 .. 1 and 9 .. 10 are the ends. */
    private static void doubtsAtTheEnds() {
        TongueCamp x = span(0, 0);
        for (int doubts = 1; doubts <= 40; doubts++) {
            boolean passed = doubts % 2 == 1;
            Check.due("doubt " + doubts, x.task(0, passed ? 10 : 1, passed), 1);
            Check.due("low with doubt " + doubts, x.tell(0, 4), passed ? 9 : 0);
            Check.due("high with doubt " + doubts, x.tell(0, 5), passed ? 10 : 1);
            Check.due("doubts", x.tell(0, 6), doubts);
        }
        x.child(0, 10, false);
        Check.due("no doubts of another", x.tell(1, 6), 0);
    }

    // "NEXT: the hardness (LOW + HIGH + 1) / 2, cut, if LOW is below HIGH."

    private static void next() {
        for (int low = 0; low <= 10; low++) {
            Check.due("next of " + low + " .. " + low, span(low, low).tell(0, 7), -1);
            for (int high = low + 1; high <= 10; high++) {
                int sum = low + high + 1;
                Check.due("next of " + low + " .. " + high, span(low, high).tell(0, 7), sum % 2 == 0 ? sum / 2 : (sum - 1) / 2);
            }
        }
        Check.due("next of 0 .. 1", span(0, 1).tell(0, 7), 1);
        Check.due("next of 0 .. 10", span(0, 10).tell(0, 7), 5);
        Check.due("next of 0 .. 9", span(0, 9).tell(0, 7), 5);
        Check.due("next of 9 .. 10", span(9, 10).tell(0, 7), 10);
    }

    // Promise 12: "NONE: g is not 1 .. 6, x not 1 .. y, or there is no such way."

    /** Children whose LOW and HIGH are one number each, the given ones. */
    private static TongueCamp levels(int... levels) {
        TongueCamp x = new TongueCamp();
        for (int i = 0; i < levels.length; i++) {
            x.child(0, 10, false);
            setSpan(x, i, levels[i], levels[i]);
        }
        return x;
    }

    /** So many children, all of one level. */
    private static TongueCamp alike(int many) {
        return levels(new int[many]);
    }

    /** Of the children of a camp that were never grouped, all alike: the sizes that are due, or none. */
    private static void cut(int many, int g, int x, int y, int... sizes) {
        TongueCamp camp = alike(many);
        String call = many + " children: groups(" + g + ", " + x + ", " + y + ")";
        Check.due(call, camp.groups(g, x, y), sizes.length == 0 ? -1 : 0);
        int child = 0;
        for (int group = 0; group < sizes.length; group++) {
            for (int i = 0; i < sizes[group]; i++) {
                Check.due(call + ": group of " + child, camp.tell(child, 8), group);
                child++;
            }
        }
        for (; child < many; child++) {
            Check.due(call + ": no group of " + child, camp.tell(child, 8), -1);
        }
    }

    private static void numberOfGroups() {
        for (int g : new int[] {LEAST, -6, -1, 0, 7, 8, 24, MOST}) {
            cut(12, g, 1, 24);
        }
        cut(12, 1, 1, 24, 12);
        cut(12, 2, 1, 24, 1, 11);
        cut(12, 5, 1, 24, 1, 1, 1, 1, 8);
        cut(12, 6, 1, 24, 1, 1, 1, 1, 1, 7);
        cut(7, 7, 1, 1);
        cut(6, 6, 1, 1, 1, 1, 1, 1, 1, 1);
    }

    private static void sizes() {
        for (int x : new int[] {LEAST, -1, 0}) {
            cut(4, 1, x, 8);
            cut(4, 2, x, x);
        }
        cut(4, 2, 1, 8, 1, 3);
        cut(4, 2, 2, 8, 2, 2);
        cut(4, 2, 2, 2, 2, 2);
        cut(4, 2, 2, 1);
        cut(4, 1, 4, 3);
        cut(4, 1, 4, 4, 4);
        cut(4, 1, 1, 0);
        cut(4, 1, 1, LEAST);
        cut(4, 2, 1, MOST, 1, 3);
        cut(4, 1, 4, MOST, 4);
        cut(4, 1, MOST, MOST);
        cut(4, 1, MOST, LEAST);
        cut(4, 1, 5, 24);
    }

    /** "runs, of x to y CHILDREN each": g times x of them are enough. */
    private static void runsAtLeast() {
        cut(11, 6, 2, 9);
        cut(12, 6, 2, 9, 2, 2, 2, 2, 2, 2);
        cut(13, 6, 2, 9, 2, 2, 2, 2, 2, 3);
        cut(5, 2, 3, 3);
        cut(6, 2, 3, 3, 3, 3);
        cut(7, 2, 3, 3);
        cut(5, 6, 1, 1);
        cut(1, 1, 1, 1, 1);
        cut(1, 2, 1, 1);
        cut(3, 1, 3, 9, 3);
        cut(2, 1, 3, 9);
    }

    private static void runsAtMost() {
        cut(11, 6, 1, 2, 1, 2, 2, 2, 2, 2);
        cut(12, 6, 1, 2, 2, 2, 2, 2, 2, 2);
        cut(13, 6, 1, 2);
        cut(9, 3, 2, 4, 2, 3, 4);
        cut(11, 3, 2, 4, 3, 4, 4);
        cut(12, 3, 2, 4, 4, 4, 4);
        cut(13, 3, 2, 4);
        cut(5, 1, 1, 5, 5);
        cut(6, 1, 1, 5);
    }

    private static void groupsOfNobody() {
        for (int g = 0; g <= 7; g++) {
            cut(0, g, 1, 24);
            cut(0, g, 0, 24);
        }
    }

    private static void groupsOf24() {
        cut(24, 1, 24, 24, 24);
        cut(24, 1, 25, 25);
        cut(24, 1, 1, 23);
        cut(24, 6, 4, 4, 4, 4, 4, 4, 4, 4);
        cut(24, 6, 5, 9);
        cut(24, 6, 1, 3);
        cut(24, 6, 1, 19, 1, 1, 1, 1, 1, 19);
        cut(24, 6, 1, 18, 1, 1, 1, 1, 2, 18);
    }

    private static void refusedGroups() {
        Refused.none("g 0", Camps::rich, x -> x.groups(0, 1, 8));
        Refused.none("g 7", Camps::rich, x -> x.groups(7, 1, 8));
        Refused.none("x 0", Camps::rich, x -> x.groups(2, 0, 8));
        Refused.none("x above y", Camps::rich, x -> x.groups(2, 4, 3));
        Refused.none("too few children", Camps::rich, x -> x.groups(3, 3, 8));
        Refused.none("too many children", Camps::rich, x -> x.groups(2, 1, 3));
    }

    // "THE ROW: all CHILDREN by LOW + HIGH, the least first, of several the least CHILD."

    private static void rowOfLevels() {
        TongueCamp x = Camps.children(5);
        setSpan(x, 0, 5, 6);
        setSpan(x, 1, 0, 10);
        setSpan(x, 2, 4, 5);
        setSpan(x, 3, 3, 7);
        setSpan(x, 4, 5, 5);
        // Sums 11, 10, 9, 10, 10: the row is 2, 1, 3, 4, 0; each its own group.
        Check.due("each its own", x.groups(5, 1, 1), 10 * (1 + 10 + 1 + 4));
        int[] due = {4, 1, 0, 2, 3};
        for (int i = 0; i < 5; i++) {
            Check.due("place of " + i, x.tell(i, 8), due[i]);
        }
        // The levels change, and the row with them: sums 11, 10, 9, 10, 20.
        x.task(4, 10, true);
        Check.due("another row", x.groups(5, 1, 1), 10 * (1 + 10 + 1 + 4 + 1) + 2);
        int[] then = {3, 1, 0, 2, 4};
        for (int i = 0; i < 5; i++) {
            Check.due("place of " + i + " then", x.tell(i, 8), then[i]);
        }
        TongueCamp y = levels(10, 0, 10, 0, 9, 1);
        y.groups(6, 1, 1);
        int[] ends = {4, 0, 5, 1, 3, 2};
        for (int i = 0; i < 6; i++) {
            Check.due("place of " + i + " with the ends", y.tell(i, 8), ends[i]);
        }
    }

    // "WIDTH of a GROUP: the greatest HIGH in it less the least LOW."

    private static void widths() {
        Check.due("one child, a span", span(2, 9).groups(1, 1, 1), 70);
        Check.due("one child, the widest", span(0, 10).groups(1, 1, 1), 100);
        Check.due("one child, one number", span(10, 10).groups(1, 1, 1), 0);
        Check.due("from end to end", levels(0, 10).groups(1, 1, 2), 100);
        Check.due("one each", levels(0, 10).groups(2, 1, 2), 0);
        TongueCamp x = Camps.children(3);
        setSpan(x, 0, 4, 4);
        setSpan(x, 1, 1, 6);
        setSpan(x, 2, 3, 9);
        // The row is 1, 0, 2: neither the first nor the last alone has what is the least and the greatest.
        Check.due("all together", x.groups(1, 3, 3), 80);
        TongueCamp z = Camps.children(3);
        setSpan(z, 0, 3, 3);
        setSpan(z, 1, 0, 8);
        setSpan(z, 2, 5, 5);
        Check.due("the widest in the middle of the row", z.groups(1, 3, 3), 80);
        TongueCamp y = Camps.children(2);
        setSpan(y, 0, 0, 10);
        setSpan(y, 1, 5, 6);
        Check.due("one within the other", y.groups(1, 2, 2), 100);
    }

    /** The first ones of level 0, then some of the one level, then some of the other, each as many as told. */
    private static TongueCamp steps(int first, int level, int then, int other, int last) {
        int[] levels = new int[first + then + last];
        for (int i = first; i < levels.length; i++) {
            levels[i] = i < first + then ? level : other;
        }
        return levels(levels);
    }

    private static void groupsOf(TongueCamp x, String what, int first, int all) {
        for (int i = 0; i < all; i++) {
            Check.due(what + ": group of " + i, x.tell(i, 8), i < first ? 0 : 1);
        }
    }

    /** "10 times all WIDTHS together, and one for each CHILD whose GROUP is another one than it had": a width of one less is worth ten moves. */
    private static void tenToOne() {
        for (int half = 10; half <= 12; half++) {
            // Cut behind the first: widths 1 together, and all of the first half but one move; in the middle: 2, none.
            int moves = half - 1;
            TongueCamp x = steps(1, 2, half - 1, 3, half);
            Check.due("halves of " + half, x.groups(2, half, half), 20);
            Check.due(moves + " moves for a width of one", x.groups(2, 1, 23), Math.min(10 + moves, 20));
            groupsOf(x, moves + " moves", moves <= 10 ? 1 : half, 2 * half);
        }
    }

    /** The same with the better cut behind: of two alike, the one whose first group has the fewest. */
    private static void tenToOneTurned() {
        for (int half = 10; half <= 12; half++) {
            int moves = half - 1;
            TongueCamp x = steps(half, 1, half - 1, 3, 1);
            Check.due("turned halves of " + half, x.groups(2, half, half), 20);
            Check.due(moves + " moves turned", x.groups(2, 1, 23), Math.min(10 + moves, 20));
            groupsOf(x, moves + " moves turned", moves <= 9 ? 2 * half - 1 : half, 2 * half);
        }
    }

    /** "(who had none aside)": neither counts, who had none, nor who has the one that it had. */
    private static void thoseWhoHadNone() {
        TongueCamp x = alike(4);
        Check.due("all had none", x.groups(2, 2, 2), 0);
        Check.due("all have what they had", x.groups(2, 2, 2), 0);
        x.child(0, 10, false);
        setSpan(x, 4, 0, 0);
        Check.due("one had none", x.groups(2, 2, 3), 0);
        Check.due("it has one now", x.groups(1, 5, 5), 3);
        Check.due("the last three back", x.groups(2, 2, 2), -1);
        Check.due("two to the second", x.groups(2, 3, 3), -1);
        Check.due("two at least to the second", x.groups(2, 2, 3), 2);
        groupsOf(x, "two moved", 3, 5);
        TongueCamp y = alike(3);
        y.groups(3, 1, 1);
        Check.due("from 0, 1, 2 to 0 alone", y.groups(1, 3, 3), 2);
        Check.due("from 0 to 0, 1, 2", y.groups(3, 1, 1), 2);
        Check.due("from 0, 1, 2 to 0, 1", y.groups(2, 1, 2), 1);
        groupsOf(y, "the last one moved", 1, 3);
    }

    /** "of several that whose first GROUP has the fewest CHILDREN, then the second, and so on" */
    private static void fewestFirst() {
        cut(7, 3, 1, 5, 1, 1, 5);
        cut(7, 3, 1, 4, 1, 2, 4);
        cut(7, 3, 1, 3, 1, 3, 3);
        cut(7, 3, 2, 3, 2, 2, 3);
        cut(8, 3, 2, 3, 2, 3, 3);
        cut(8, 4, 1, 3, 1, 1, 3, 3);
        // Cutting anywhere costs as much: each child is one level behind the one before.
        TongueCamp x = levels(0, 1, 2, 3, 4);
        Check.due("evenly spread", x.groups(2, 1, 4), 30);
        groupsOf(x, "evenly spread", 1, 5);
    }
}
