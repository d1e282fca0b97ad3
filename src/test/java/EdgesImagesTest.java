import java.util.function.ToIntFunction;

/** Edges of promises 31 to 33, sentence by sentence: counts, images, going back to them. */
public final class EdgesImagesTest {
    private static final int LEAST = Integer.MIN_VALUE;
    private static final int MOST = Integer.MAX_VALUE;

    public static void main(String[] args) {
        whatIsCounted();
        eachCountAlone();
        fullCounts();
        imagesByNumber();
        refusedImages();
        againByNumber();
        refusedAgain();
        asItIsNow();
        imageIsNoChange();
        imagesStay();
        eachThingComesBack();
        imagesAreNoPart();
        numbersUsedOtherwise();
        fewerThanThereWere();
        fullCampComesBack();
        Check.finish("EdgesImagesTest");
    }

    // Promise 31: "How many: 0 CHILDREN, 1 CABINS, ..", "NONE for another what."

    private static void whatIsCounted() {
        TongueCamp x = Camps.rich();
        // Tokens: 16 of each but 12 of 1, 10 of 2, 18 of 3.
        int[] due = {8, 3, 9, 3, 3, 1, 9, 4, 3, 6, 120, 4};
        for (int what = 0; what <= 11; what++) {
            Check.due("count(" + what + ")", x.count(what), due[what]);
        }
        for (int what : new int[] {LEAST, -2, -1, 12, 13, 100, MOST}) {
            Check.due("count(" + what + ")", x.count(what), -1);
            Check.due("count(" + what + ") of a new one", new TongueCamp().count(what), -1);
        }
        Refused.none("count(12)", Camps::rich, y -> y.count(12));
        Refused.none("count(-1)", Camps::rich, y -> y.count(-1));
        Refused.answers("count(2)", 9, Camps::rich, y -> y.count(2));
    }

    private static void counts(TongueCamp x, String what, int... due) {
        for (int i = 0; i < due.length; i++) {
            Check.due(what + ": count(" + i + ")", x.count(i), due[i]);
        }
    }

    /** Each call changes what it is told in, and nothing else of it. */
    private static void eachCountAlone() {
        TongueCamp x = new TongueCamp();
        counts(x, "new", 0, 0, 0, 0, 0, 0, 0, 0, 0, 0, 0, 0);
        x.child(0, 10, false);
        counts(x, "a child", 1, 0, 0, 0, 0, 0, 0, 0, 0, 0, 10, 0);
        x.child(0, 10, false);
        counts(x, "two", 2, 0, 0, 0, 0, 0, 0, 0, 0, 0, 20, 0);
        x.cabin(5);
        counts(x, "a cabin", 2, 1, 5, 0, 0, 0, 0, 0, 0, 0, 20, 0);
        x.helper(0);
        counts(x, "a helper", 2, 1, 5, 1, 0, 0, 0, 0, 0, 0, 20, 0);
        x.host();
        counts(x, "a host", 2, 1, 5, 1, 1, 0, 0, 0, 0, 0, 20, 0);
        x.night();
        counts(x, "a night", 2, 1, 5, 1, 1, 1, 0, 0, 0, 0, 20, 0);
        x.said(0, 7, 3, true, true);
        counts(x, "said", 2, 1, 5, 1, 1, 1, 7, 0, 0, 0, 20, 0);
        Check.game(x, "gain 1;gain 1;gain 1;");
        counts(x, "a game", 2, 1, 5, 1, 1, 1, 7, 3, 0, 0, 20, 0);
        x.bar(0, 1);
        counts(x, "barred", 2, 1, 5, 1, 1, 1, 7, 3, 1, 0, 20, 0);
        x.lie(1, 0);
        counts(x, "one lies", 2, 1, 5, 1, 1, 1, 7, 3, 1, 1, 20, 0);
        x.said(1, 7, 3, true, true);
        counts(x, "said by the other", 2, 1, 5, 1, 1, 1, 7, 3, 1, 1, 23, 0);
        x.mark(1, 0, 0, 0);
        counts(x, "marks", 2, 1, 5, 1, 1, 1, 7, 3, 1, 1, 23, 1);
        x.lie(1, -1);
        counts(x, "nobody lies", 2, 1, 5, 1, 1, 1, 7, 3, 1, 0, 23, 1);
    }

    private static void fullCounts() {
        TongueCamp x = Camps.cabins(24, 8, 8, 8, 8, 8, 8);
        for (int i = 0; i < 8; i++) {
            x.helper(0);
            x.host();
        }
        for (int i = 0; i < 24; i++) {
            x.mark(i, 0, 0, 0);
            x.bar(0, i);
            x.bar(1, i);
        }
        x.house();
        Check.game(x, "set 9999;".repeat(16));
        x.night();
        x.said(0, 23, 0, false, false);
        counts(x, "as many as there can be", 24, 6, 48, 6, 8, 1, 23, 16, 30, 24, 24 * 9999, 16);
    }

    // Promise 32: "Image k (0 .. 2) is all that is told", "true; false for another k."

    private static void imagesByNumber() {
        for (int k : new int[] {LEAST, -3, -2, -1, 3, 4, MOST}) {
            TongueCamp x = Camps.children(1);
            Check.due("image(" + k + ")", x.image(k), false);
            Check.due("again(" + k + ") behind it", x.again(k), false);
            for (int i = 0; i <= 2; i++) {
                Check.due("again(" + i + ") behind image(" + k + ")", x.again(i), false);
            }
        }
        for (int k = 0; k <= 2; k++) {
            TongueCamp x = Camps.children(1);
            Check.due("image(" + k + ")", x.image(k), true);
            x.child(0, 10, false);
            for (int i = 0; i <= 2; i++) {
                Check.due("again(" + i + ") behind image(" + k + ")", x.again(i), i == k);
                Check.due("children behind again(" + i + ")", x.count(0), i < k ? 2 : 1);
            }
        }
    }

    private static void refusedImages() {
        for (int k : new int[] {-1, 3}) {
            Refused.no("image(" + k + ")", Camps::rich, x -> x.image(k));
        }
    }

    // Promise 33: "true; false if there is none such."

    private static void againByNumber() {
        TongueCamp x = Camps.children(2);
        for (int k = 0; k <= 2; k++) {
            x.image(k);
        }
        x.child(0, 10, false);
        for (int k : new int[] {LEAST, -3, -2, -1, 3, 4, MOST}) {
            Check.due("again(" + k + ")", x.again(k), false);
            Check.due("children behind again(" + k + ")", x.count(0), 3);
        }
        for (int k = 0; k <= 2; k++) {
            x.child(0, 10, false);
            Check.due("again(" + k + ")", x.again(k), true);
            Check.due("children behind again(" + k + ")", x.count(0), 2);
            Check.due("again(" + k + ") once more", x.again(k), true);
        }
    }

    private static void refusedAgain() {
        for (int k : new int[] {-1, 2, 3}) {
            Refused.no("again(" + k + ")", Camps::rich, x -> x.again(k));
        }
    }

    /** "as it is now": the later image goes before the earlier one. */
    private static void asItIsNow() {
        for (int k = 0; k <= 2; k++) {
            TongueCamp x = new TongueCamp();
            for (int children = 0; children <= 3; children++) {
                Check.due("image of " + children, x.image(k), true);
                x.child(0, 10, false);
                x.again(k);
                Check.due("again with " + children, x.count(0), children);
                x.child(0, 10, false);
            }
        }
    }

    private static void imageIsNoChange() {
        TongueCamp x = Camps.children(3);
        x.image(0);
        Check.due("as before", x.count(0), 3);
        Check.due("and goes on", x.child(0, 10, false), 3);
        Refused.answers("image(0) and again(0), as image 0 is", 1, () -> {
            TongueCamp y = Camps.rich();
            y.image(0);
            return y;
        }, y -> y.image(0) && y.again(0) ? 1 : 0);
    }

    /** What is done behind an image or behind again is nothing of the image. */
    private static void imagesStay() {
        TongueCamp x = Camps.cabins(2, 2, 2);
        x.lie(0, 1);
        x.image(1);
        for (int times = 0; times < 3; times++) {
            x.lie(0, 0);
            x.task(0, 5, true);
            x.night();
            x.child(5, 17, true);
            x.bar(0, 1);
            x.again(1);
            Check.due("cabin, time " + times, x.tell(0, 3), 1);
            Check.due("low, time " + times, x.tell(0, 4), 0);
            Check.due("day, time " + times, x.count(5), 0);
            Check.due("children, time " + times, x.count(0), 2);
            Check.due("barred, time " + times, x.count(8), 0);
        }
    }

    /** One thing is changed behind an image: it is told otherwise then, and as it was behind again. */
    private static void back(String what, ToIntFunction<TongueCamp> told, ToIntFunction<TongueCamp> change) {
        for (int k = 0; k <= 2; k++) {
            TongueCamp x = Camps.rich();
            int was = told.applyAsInt(x);
            x = Camps.rich();
            x.image(k);
            change.applyAsInt(x);
            x.image((k + 1) % 3);
            int is = told.applyAsInt(x);
            Check.due(what + " is another one", is != was, true);
            Check.due(what + ": again(" + k + ")", x.again(k), true);
            Check.due(what + " behind again(" + k + ")", told.applyAsInt(x), was);
            change.applyAsInt(x);
            Check.due(what + ": again(" + k + ") once more", x.again(k), true);
            Check.due(what + " behind it once more", told.applyAsInt(x), was);
            x.again((k + 1) % 3);
            Check.due(what + " as changed", told.applyAsInt(x), is);
        }
    }

    private static int no(boolean answer) {
        return answer ? 1 : 0;
    }

    /** "all that is told (tape, FAULT, WATCH, too)" */
    private static void eachThingComesBack() {
        back("children", x -> x.count(0), x -> x.child(0, 10, true));
        back("tongue of a new one", x -> x.tell(x.child(2, 11, true), 0) * 100 + x.count(0), x -> x.child(1, 9, false));
        back("cabins", x -> x.count(1), x -> x.cabin(1));
        back("beds", x -> x.count(2), x -> x.cabin(7));
        back("helpers", x -> x.count(3), x -> x.helper(0));
        back("hosts", x -> x.count(4), TongueCamp::host);
        back("day", x -> x.count(5), TongueCamp::night);
        back("hour", x -> x.count(6), x -> x.said(0, 20, 1, false, false));
        back("lines", x -> x.count(7), x -> Check.game(x, ""));
        back("game", x -> x.said(0, 23, 1, false, false), x -> Check.game(x, "set 500;"));
        back("bars", x -> x.count(8), x -> no(x.bar(3, 4)));
        back("what bars cost", x -> x.cost(2), x -> no(x.bar(4, 5)));
        back("who is barred", x -> no(x.bar(3, 4)), x -> no(x.bar(3, 4)));
        back("cabin of one", x -> x.tell(6, 3), x -> no(x.lie(6, 2)));
        back("who lie", x -> x.count(9), x -> no(x.lie(0, -1)));
        back("cost", x -> x.cost(-1), TongueCamp::house);
        back("low", x -> x.tell(5, 4), x -> x.task(5, 6, true));
        back("high", x -> x.tell(5, 5), x -> x.task(5, 6, false));
        back("doubts", x -> x.tell(2, 6), x -> x.task(2, 10, true));
        back("next", x -> x.tell(5, 7), x -> x.task(5, 6, false));
        back("group", x -> x.tell(7, 8), x -> x.groups(6, 1, 8));
        back("tokens", x -> x.tell(0, 9), x -> x.said(0, 21, 9, true, false));
        back("run", x -> x.tell(0, 10), x -> x.said(0, 21, 9, true, false));
        back("words", x -> x.tell(0, 11), x -> x.said(0, 21, 9, true, false));
        back("who said something", x -> x.tell(7, 13), x -> x.said(7, 21, 0, false, false));
        back("silent ones", TongueCamp::night, x -> x.said(7, 21, 0, false, false));
        back("host of one", x -> x.tell(0, 12), x -> no(x.like(0, 0, -1)) + no(x.like(1, 0, -1)) + no(x.like(2, 0, -1)) + x.give());
        back("liking", TongueCamp::give, x -> no(x.like(2, 6, 9)));
        back("who won't", TongueCamp::give, x -> no(x.like(1, 5, -1)));
        back("marks", x -> x.count(11), x -> no(x.mark(7, 1, 1, 0)));
        back("gains", x -> x.held(2), x -> no(x.mark(0, 0, 0, 1)));
        back("ways", x -> x.held(3), x -> no(x.mark(0, 10, 60, 0)));
        back("fault", x -> x.fault(0), TongueCamp::game);
        back("another fault", x -> x.fault(0), x -> Check.game(x, "stop;".repeat(17)));
        back("its place", x -> x.fault(1), x -> Check.game(x, "#"));
        back("length of the tape", x -> x.feed(0, 0, 0, 0, 0), x -> x.end(9));
        back("an empty tape", x -> x.end(10), x -> x.end(0));
        back("what is on the tape", x -> x.end(4) + x.feed(0x3b202020, 0x20202020, 0x20202020, 0x20202020, 0x20202020)
            + x.game(), x -> x.end(0) + Check.feed(x, "lose 5;   "));
        back("watch", x -> x.watcher(0), x -> x.helper(0) + x.watch(3, 2, 0));
        back("nights of watch", x -> x.watcher(3), x -> x.watch(4, 1, 0));
        back("nights off", x -> x.watch(1, 3, 0), x -> x.helper(0));
    }

    /** An image has no images in it: the others stay as they are. */
    private static void imagesAreNoPart() {
        TongueCamp x = new TongueCamp();
        x.image(0);
        x.child(0, 10, false);
        x.image(1);
        Check.due("again(0)", x.again(0), true);
        Check.due("image 1 is there still", x.again(1), true);
        Check.due("with its child", x.count(0), 1);
        x.again(0);
        x.image(1);
        x.child(0, 10, false);
        x.image(2);
        x.again(1);
        Check.due("image 1 as of late", x.count(0), 0);
        x.again(2);
        Check.due("image 2", x.count(0), 1);
        x.again(0);
        Check.due("image 0", x.count(0), 0);
    }

    /** A number that was another child's, cabin's or helper's in between is told as the image has it. */
    private static void numbersUsedOtherwise() {
        TongueCamp x = new TongueCamp();
        x.image(0);
        x.child(2, 9, true);
        x.cabin(3);
        x.helper(1);
        x.host();
        x.image(1);
        x.again(0);
        x.child(4, 17, false);
        x.cabin(5);
        x.helper(0);
        x.watch(1, 1, 0);
        x.image(2);
        for (int times = 0; times < 2; times++) {
            x.again(1);
            Check.due("tongue of image 1", x.tell(0, 0), 2);
            Check.due("age of image 1", x.tell(0, 1), 9);
            Check.due("shy of image 1", x.tell(0, 2), 1);
            Check.due("beds of image 1", x.count(2), 3);
            Check.due("hosts of image 1", x.count(4), 1);
            Check.due("no plan of image 1", x.watcher(0), -1);
            Check.due("nights off of image 1", x.watch(1, 1, 0), -1);
            x.again(2);
            Check.due("tongue of image 2", x.tell(0, 0), 4);
            Check.due("age of image 2", x.tell(0, 1), 17);
            Check.due("shy of image 2", x.tell(0, 2), 0);
            Check.due("beds of image 2", x.count(2), 5);
            Check.due("hosts of image 2", x.count(4), 0);
            Check.due("plan of image 2", x.watcher(0), 1);
            Check.due("nights off of image 2", x.watch(1, 1, 0), 1);
        }
    }

    /** What was planned for more children is nothing to fewer of them; and who comes then begins anew. */
    private static void fewerThanThereWere() {
        TongueCamp x = Check.camp(Check.row(0, 10, 1));
        x.cabin(1);
        x.host();
        x.image(0);
        for (int i = 1; i < 6; i++) {
            x.child(0, 10, true);
            x.cabin(1);
            x.host();
            x.bar(0, i);
            x.like(i, i, 9);
            x.like(0, i, 9);
            x.lie(i, i);
            x.task(i, 5, true);
            x.task(i, 4, false);
            x.mark(i, 0, 9, 1);
        }
        Check.game(x, "gain 5;");
        x.said(1, 20, 9, true, true);
        x.night();
        x.said(1, 20, 9, true, true);
        Check.due("six given", x.give(), 6045);
        Check.due("six groups", x.groups(6, 1, 1), 150);
        Check.due("six housed", x.house(), 72);
        Check.due("six, the least", x.least(), 72);
        Check.due("of six", x.held(0), 1);
        x.again(0);
        Check.due("one given", x.give(), 1000);
        Check.due("one group", x.groups(1, 1, 1), 100);
        Check.due("one housed", x.house(), 12);
        Check.due("one, the least", x.least(), 12);
        Check.due("of none", x.held(1), 1);
        Check.due("no two groups of one", x.groups(2, 1, 1), -1);
        Check.due("the next child", x.child(1, 17, false), 1);
        int[] due = {1, 17, 0, -1, 0, 10, 0, 5, -1, 10, 0, 0, -1, 0};
        for (int what = 0; what < due.length; what++) {
            Check.due("of the next child, " + what, x.tell(1, what), due[what]);
        }
        Check.due("it has no marks", x.count(11), 0);
        Check.due("nobody is barred from it", x.bar(1, 0), true);
        x.host();
        Check.due("nobody likes it", x.give(), 2000);
    }

    /** The last child, cabin, helper, host, line and byte come back, too. */
    private static void fullCampComesBack() {
        TongueCamp x = Camps.cabins(24, 1, 1, 1, 8, 8, 8);
        for (int i = 0; i < 8; i++) {
            x.helper(i == 5 ? 0 : 16383);
            x.host();
        }
        x.like(7, 23, 9);
        x.mark(23, 0, 77, 1);
        x.bar(23, 22);
        x.lie(23, 5);
        x.task(23, 9, true);
        x.watch(14, 1, 0);
        Check.game(x, "if not own and not own and not own and shy:gain 1;" + "stop;".repeat(14) + "gain 9;");
        Check.feed(x, " ".repeat(499) + "#");
        x.image(2);
        x.like(7, 23, 0);
        x.mark(23, 0, 0, 0);
        x.lie(23, -1);
        x.task(23, 1, false);
        x.watch(13, 1, 0);
        x.game();
        Check.game(x, "gain 1;");
        Check.due("again", x.again(2), true);
        counts(x, "full", 24, 6, 27, 6, 8, 0, 0, 16, 1, 1, 240, 1);
        Check.due("its cabin", x.tell(23, 3), 5);
        Check.due("its low", x.tell(23, 4), 9);
        Check.due("its doubts", x.tell(23, 6), 0);
        Check.due("its gain", x.held(2), 77);
        Check.due("watch on the last night", x.watcher(13), 32);
        Check.due("no fault yet", x.fault(0), 0);
        Check.due("by the game", x.said(23, 0, 1, false, false), 10);
        Check.due("the tape is full", x.feed(0, 0, 0, 0, 0), -1);
        Check.due("a fault on it", x.game(), -1);
        Check.due("at its last byte", x.fault(1), 499);
        Check.due("liking of the last host for the last child", x.give(), 8009);
        Check.due("barred from the one before", x.bar(22, 23), false);
    }
}
