/** Promises 11 and 12: tasks, levels, doubts, groups. */
public final class LevelsTest {
    public static void main(String[] args) {
        tasks();
        groups();
        moved();
        ties();
        wrongNumbers();
        Check.finish("LevelsTest");
    }

    private static void level(TongueCamp x, String what, int low, int high, int doubts, int next) {
        Check.due(what + " low", x.tell(0, 4), low);
        Check.due(what + " high", x.tell(0, 5), high);
        Check.due(what + " doubts", x.tell(0, 6), doubts);
        Check.due(what + " next", x.tell(0, 7), next);
    }

    private static void tasks() {
        TongueCamp x = Check.camp(Check.row(0, 10, 0));
        Check.due("hardness 0", x.task(0, 0, true), -1);
        Check.due("hardness 11", x.task(0, 11, false), -1);
        Check.due("no child", x.task(1, 5, true), -1);
        Check.due("child -1", x.task(-1, 5, true), -1);
        level(x, "at first", 0, 10, 0, 5);
        Check.due("passed 5", x.task(0, 5, true), 5);
        level(x, "5 .. 10", 5, 10, 0, 8);
        Check.due("passed 3 tells nothing", x.task(0, 3, true), 5);
        Check.due("failed 8", x.task(0, 8, false), 2);
        level(x, "5 .. 7", 5, 7, 0, 6);
        Check.due("failed 9 tells nothing", x.task(0, 9, false), 2);
        Check.due("failed 6", x.task(0, 6, false), 0);
        level(x, "5 .. 5", 5, 5, 0, -1);
        Check.due("failed 5 leaves nothing", x.task(0, 5, false), 1);
        level(x, "4 .. 5", 4, 5, 1, 5);
        Check.due("passed 10 leaves nothing", x.task(0, 10, true), 1);
        level(x, "9 .. 10", 9, 10, 2, 10);
        Check.due("failed 1", x.task(0, 1, false), 1);
        level(x, "0 .. 1", 0, 1, 3, 1);
        Check.due("failed 1 again", x.task(0, 1, false), 0);
        level(x, "0 .. 0", 0, 0, 3, -1);
    }

    /** Children whose levels are LOW = HIGH = the given numbers (0 .. 9). */
    private static TongueCamp levels(int... levels) {
        TongueCamp x = new TongueCamp();
        for (int i = 0; i < levels.length; i++) {
            x.child(0, 10, false);
            if (levels[i] > 0) {
                x.task(i, levels[i], true);
            }
            x.task(i, levels[i] + 1, false);
        }
        return x;
    }

    private static void inGroups(TongueCamp x, String what, int... groups) {
        for (int i = 0; i < groups.length; i++) {
            Check.due(what + ", group of " + i, x.tell(i, 8), groups[i]);
        }
    }

    private static void groups() {
        TongueCamp x = levels(9, 1, 8, 2, 1);
        Check.due("one group", x.groups(1, 1, 5), 80);
        inGroups(x, "one", 0, 0, 0, 0, 0);
        TongueCamp y = levels(9, 1, 8, 2, 1);
        Check.due("two groups", y.groups(2, 1, 4), 20);
        inGroups(y, "two", 1, 0, 1, 0, 0);
        TongueCamp z = levels(9, 1, 8, 2, 1);
        Check.due("four at least in the first", z.groups(2, 1, 2), -1);
        inGroups(z, "none", -1, -1, -1, -1, -1);
        // The row is 1, 4, 3, 2, 0: cut 1 | 2 | 2 costs 10 + 10, 2 | 1 | 2 costs 10, 2 | 2 | 1 costs 60.
        TongueCamp w = levels(9, 1, 8, 2, 1);
        Check.due("best of three", w.groups(3, 1, 3), 10);
        inGroups(w, "three", 2, 0, 2, 1, 0);
    }

    private static void moved() {
        TongueCamp x = levels(1, 1, 5, 5);
        Check.due("nobody had one", x.groups(2, 1, 3), 0);
        inGroups(x, "first", 0, 0, 1, 1);
        x.child(0, 10, false);
        x.task(4, 5, true);
        x.task(4, 6, false);
        Check.due("the new one had none", x.groups(2, 1, 4), 0);
        inGroups(x, "then", 0, 0, 1, 1, 1);
        Check.due("all into one: three moved", x.groups(1, 1, 24), 40 + 3);
        Check.due("and two at least again", x.groups(2, 1, 4), 3);
        Check.due("nobody moves", x.groups(2, 1, 4), 0);
        // A way that moves nobody goes before one whose first group has fewer.
        TongueCamp y = levels(3, 3, 3, 3);
        Check.due("2 and 2", y.groups(2, 2, 2), 0);
        Check.due("kept though the first could have fewer", y.groups(2, 1, 3), 0);
        inGroups(y, "kept", 0, 0, 1, 1);
    }

    private static void ties() {
        TongueCamp x = levels(3, 3, 3, 3, 3);
        Check.due("all alike", x.groups(3, 1, 3), 0);
        inGroups(x, "fewest first", 0, 1, 2, 2, 2);
        TongueCamp y = levels(3, 3, 3, 3, 3);
        Check.due("all alike, two at most", y.groups(3, 1, 2), 0);
        inGroups(y, "then the second", 0, 1, 1, 2, 2);
        TongueCamp z = levels(5, 4, 5, 4);
        z.groups(2, 2, 2);
        inGroups(z, "row by level, then number", 1, 0, 1, 0);
    }

    private static void wrongNumbers() {
        TongueCamp x = levels(1, 2, 3);
        Check.due("g 0", x.groups(0, 1, 3), -1);
        Check.due("g 0 of nobody", new TongueCamp().groups(0, 1, 1), -1);
        Check.due("g 7", x.groups(7, 1, 3), -1);
        TongueCamp many = levels(1, 2, 3, 4, 5, 6, 7, 8, 9);
        Check.due("g 7 of nine", many.groups(7, 1, 9), -1);
        Check.due("g 6 of nine", many.groups(6, 1, 9), 30);
        inGroups(many, "g 6 of nine", 0, 1, 2, 3, 4, 5, 5, 5, 5);
        Check.due("g -1", x.groups(-1, 1, 3), -1);
        Check.due("x 0", x.groups(1, 0, 3), -1);
        Check.due("x above y", x.groups(1, 3, 2), -1);
        Check.due("too many groups", x.groups(4, 1, 3), -1);
        Check.due("runs too long", x.groups(1, 4, 5), -1);
        Check.due("runs too short", x.groups(1, 1, 2), -1);
        Check.due("far numbers", x.groups(6, Integer.MAX_VALUE, Integer.MAX_VALUE), -1);
        Check.due("far y", x.groups(3, 1, Integer.MAX_VALUE), 0);
        inGroups(x, "far y", 0, 1, 2);
    }
}
