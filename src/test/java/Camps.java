/** Camps that several tests begin with. */
final class Camps {
    private Camps() {
    }

    /** Children of six tongues in turn, ten years old, none shy. */
    static TongueCamp children(int many) {
        TongueCamp x = new TongueCamp();
        for (int i = 0; i < many; i++) {
            x.child(i % 6, 10, false);
        }
        return x;
    }

    /** Such children, and cabins of so many beds. */
    static TongueCamp cabins(int many, int... beds) {
        TongueCamp x = children(many);
        for (int b : beds) {
            x.cabin(b);
        }
        return x;
    }

    /** 24 children, of whom so many pairs are barred: those of 0 first, then of 1; 22 and 23 lie in one cabin. */
    static TongueCamp barred(int pairs) {
        TongueCamp x = cabins(24, 8);
        int many = 0;
        for (int a = 0; a < 2; a++) {
            for (int b = a + 1; b < 24 && many < pairs; b++) {
                Check.due("bar(" + a + ", " + b + ")", x.bar(a, b), true);
                many++;
            }
        }
        x.lie(22, 0);
        x.lie(23, 0);
        return x;
    }

    /** Children, then helpers who can't on the given nights. */
    static TongueCamp helpers(int... nights) {
        TongueCamp x = new TongueCamp();
        for (int n : nights) {
            x.helper(n);
        }
        return x;
    }

    static TongueCamp hosts(int children, int hosts) {
        TongueCamp x = children(children);
        for (int i = 0; i < hosts; i++) {
            x.host();
        }
        return x;
    }

    /** 17 children, of whom the first so many have marks, of both ways in turn. */
    static TongueCamp marked(int many) {
        TongueCamp x = children(17);
        for (int i = 0; i < many; i++) {
            Check.due("mark(" + i + ")", x.mark(i, 10 + i, 30 + 3 * i, i % 2), true);
        }
        return x;
    }

    /** A camp in which something of all that can be told is there: eight children, the latest hour 9 of day 1. */
    static TongueCamp rich() {
        TongueCamp x = Check.camp(Check.row(0, 10, 0), Check.row(0, 14, 1), Check.row(1, 11, 0), Check.row(2, 17, 1),
            Check.row(1, 9, 0), Check.row(3, 12, 0), Check.row(0, 13, 0), Check.row(4, 8, 1));
        x.bar(0, 1);
        x.bar(2, 4);
        x.bar(5, 6);
        x.cabin(3);
        x.cabin(2);
        x.cabin(4);
        int[] cabins = {0, 0, 0, 1, 2, 2};
        for (int i = 0; i < cabins.length; i++) {
            x.lie(i, cabins[i]);
        }
        x.task(0, 4, true);
        x.task(1, 6, false);
        x.task(2, 8, true);
        x.task(2, 3, false);
        x.task(3, 1, false);
        x.groups(2, 3, 5);
        Check.game(x, "if silent:gain 1;if own and words>3:gain 2;if hour>20:gain 5;if run>1:lose 3;");
        x.said(1, 3, 9, true, true);
        x.said(2, 4, 0, false, false);
        x.image(0);
        x.night();
        x.said(0, 5, 7, false, true);
        Check.game(x, "gain x");
        Check.feed(x, "stop;stop;");
        x.helper(0b1);
        x.helper(0b10);
        x.helper(0);
        x.watch(3, 1, 1);
        plan(x);
        x.image(1);
        x.said(3, 9, 4, true, false);
        return x;
    }

    private static void plan(TongueCamp x) {
        for (int i = 0; i < 3; i++) {
            x.host();
        }
        x.like(0, 1, 5);
        x.like(1, 1, 7);
        x.like(2, 3, -1);
        x.like(1, 5, 9);
        x.like(0, 2, 3);
        x.give();
        x.mark(0, 10, 60, 1);
        x.mark(2, 5, 20, 0);
        x.mark(3, 90, 40, 1);
        x.mark(6, 0, 30, 0);
    }
}
