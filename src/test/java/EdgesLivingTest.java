/** Edges of promises 1 to 5, sentence by sentence: a new object, children, bars, cabins, lying. */
public final class EdgesLivingTest {
    private static final int[] FAR = {Integer.MIN_VALUE, -65536, 65536, Integer.MAX_VALUE};

    public static void main(String[] args) {
        nothingAtFirst();
        noImageAtFirst();
        objectsShareNothing();
        tongues();
        ages();
        children24();
        refusedChildren();
        barsOfSuch();
        barsOfOne();
        barsThatAre();
        bars30();
        refusedBars();
        beds();
        cabins6();
        refusedCabins();
        childrenThatLie();
        cabinsToLieIn();
        liesThere();
        freeBeds();
        freedBeds();
        refusedLying();
        Check.finish("EdgesLivingTest");
    }

    // Promise 1: "No CHILDREN, CABINS, HELPERS, HOSTS, no GAME; DAY 0, HOUR 0; no images."

    private static void nothingAtFirst() {
        TongueCamp x = new TongueCamp();
        for (int what = 0; what <= 11; what++) {
            Check.due("new: count(" + what + ")", x.count(what), 0);
        }
        Check.due("new: no child 0", x.tell(0, 9), -100);
        Check.due("new: no cabin 0", x.cost(0), -1);
        Check.due("new: nobody to lie", x.lie(0, -1), false);
        Check.due("new: no host, no child", x.like(0, 0, 1), false);
        Check.due("new: the tape has no byte", x.end(1), -1);
        Check.due("new: no watch", x.watcher(0), -1);
        Check.due("new: no helper to watch", x.watch(1, 1, 0), -1);
        Check.due("new: first child", x.child(0, 10, false), 0);
        Check.due("new: first cabin", x.cabin(1), 0);
        Check.due("new: first helper", x.helper(0), 0);
        Check.due("new: first host", x.host(), 0);
        Check.due("new: hour 0 is not over", x.said(0, 0, 1, true, true), 10);
        Check.due("new: no game that pays", x.paysSilence(0), false);
        Check.due("new: all said something", x.night(), 0);
        Check.due("new: all are silent", x.night(), 1);
        Check.due("new: no game by night", x.tell(0, 9), 10);
    }

    private static void noImageAtFirst() {
        for (int k = 0; k <= 2; k++) {
            Check.due("new: again(" + k + ")", new TongueCamp().again(k), false);
            int of = k;
            Refused.no("again(" + k + ") of a new object", TongueCamp::new, x -> x.again(of));
        }
    }

    private static void objectsShareNothing() {
        TongueCamp x = new TongueCamp();
        TongueCamp y = Camps.rich();
        y.image(2);
        for (int what = 0; what <= 11; what++) {
            Check.due("beside another: count(" + what + ")", x.count(what), 0);
        }
        Check.due("beside another: fault(0)", x.fault(0), 0);
        Check.due("beside another: fault(1)", x.fault(1), -1);
        Check.due("beside another: watcher(0)", x.watcher(0), -1);
        Check.due("beside another: end(1)", x.end(1), -1);
        Check.due("beside another: again(2)", x.again(2), false);
    }

    // Promise 2: "A CHILD: its number. NONE: there are 24, or other numbers."

    private static void child(int tongue, int age, boolean good) {
        TongueCamp x = new TongueCamp();
        String call = "child(" + tongue + ", " + age + ")";
        Check.due(call, x.child(tongue, age, true), good ? 0 : -1);
        Check.due(call + ": how many", x.count(0), good ? 1 : 0);
        Check.due(call + ": tongue", x.tell(0, 0), good ? tongue : -100);
        Check.due(call + ": age", x.tell(0, 1), good ? age : -100);
        Check.due(call + ": shy", x.tell(0, 2), good ? 1 : -100);
    }

    private static void tongues() {
        for (int tongue = -2; tongue <= 7; tongue++) {
            child(tongue, 8, tongue >= 0 && tongue <= 5);
            child(tongue, 17, tongue >= 0 && tongue <= 5);
        }
        for (int tongue : FAR) {
            child(tongue, 12, false);
        }
    }

    private static void ages() {
        for (int age = 6; age <= 19; age++) {
            child(0, age, age >= 8 && age <= 17);
            child(5, age, age >= 8 && age <= 17);
        }
        for (int age : FAR) {
            child(3, age, false);
        }
        child(3, 0, false);
        child(3, -8, false);
    }

    private static void children24() {
        TongueCamp x = Camps.children(22);
        Check.due("the 23rd child", x.child(1, 9, false), 22);
        Check.due("none for a wrong one", x.child(6, 9, false), -1);
        Check.due("nor for another", x.child(0, 18, false), -1);
        Check.due("the 24th child", x.child(2, 17, true), 23);
        Check.due("the 25th child", x.child(3, 9, false), -1);
        Check.due("the 25th, wrong, too", x.child(6, 7, false), -1);
        Check.due("24 children", x.count(0), 24);
        Check.due("tongue of the 24th", x.tell(23, 0), 2);
        Check.due("age of the 24th", x.tell(23, 1), 17);
        Check.due("no 25th", x.tell(24, 0), -100);
    }

    private static void refusedChildren() {
        Refused.none("a 25th child", () -> Camps.children(24), x -> x.child(5, 17, true));
        Refused.none("tongue -1", Camps::rich, x -> x.child(-1, 8, true));
        Refused.none("tongue 6", Camps::rich, x -> x.child(6, 8, true));
        Refused.none("age 7", Camps::rich, x -> x.child(0, 7, true));
        Refused.none("age 18", Camps::rich, x -> x.child(5, 18, true));
    }

    // Promise 3: "false: there are no such two, they are one, they are, or there are 30."

    private static void barsOfSuch() {
        int[] none = {-2, -1, 3, 4, 24, Integer.MIN_VALUE, Integer.MAX_VALUE};
        TongueCamp x = Camps.children(3);
        for (int other : none) {
            for (int child = 0; child < 3; child++) {
                Check.due("bar(" + child + ", " + other + ")", x.bar(child, other), false);
                Check.due("bar(" + other + ", " + child + ")", x.bar(other, child), false);
            }
        }
        Check.due("two that are not there", x.bar(3, 4), false);
        Check.due("no pair", x.count(8), 0);
        Check.due("the first and the last", x.bar(0, 2), true);
        Check.due("the last and the one before", x.bar(2, 1), true);
        Check.due("the first and the second", x.bar(0, 1), true);
        Check.due("three pairs", x.count(8), 3);
        TongueCamp y = Camps.children(24);
        Check.due("bar(23, 22)", y.bar(23, 22), true);
        Check.due("bar(0, 23)", y.bar(0, 23), true);
        Check.due("bar(23, 24)", y.bar(23, 24), false);
    }

    private static void barsOfOne() {
        TongueCamp x = Camps.children(24);
        for (int child = 0; child < 24; child++) {
            Check.due("bar(" + child + ", " + child + ")", x.bar(child, child), false);
        }
        Check.due("one that is not there", x.bar(24, 24), false);
        Check.due("none barred", x.count(8), 0);
    }

    private static void barsThatAre() {
        TongueCamp x = Camps.children(3);
        Check.due("not yet", x.bar(1, 2), true);
        Check.due("they are", x.bar(1, 2), false);
        Check.due("they are, turned", x.bar(2, 1), false);
        Check.due("one pair", x.count(8), 1);
        Check.due("another pair of one of them", x.bar(0, 2), true);
        Check.due("and the third", x.bar(1, 0), true);
        Check.due("three pairs", x.count(8), 3);
        // One that is barred from many is so from each of them.
        TongueCamp y = Camps.cabins(5, 5);
        for (int other : new int[] {3, 0, 4, 1}) {
            Check.due("2 and " + other, y.bar(Math.min(2, other), Math.max(2, other)), true);
        }
        for (int other : new int[] {3, 0, 4, 1}) {
            Check.due("2 and " + other + " are", y.bar(2, other), false);
            Check.due(other + " and 2 are", y.bar(other, 2), false);
        }
        for (int child = 0; child < 5; child++) {
            y.lie(child, 0);
        }
        Check.due("four pairs cost", y.cost(0), 1200);
    }

    private static void bars30() {
        TongueCamp x = Camps.barred(29);
        Check.due("29 pairs", x.count(8), 29);
        Check.due("22 and 23 are not barred", x.cost(0), 0);
        Check.due("the 30th", x.bar(23, 22), true);
        Check.due("30 pairs", x.count(8), 30);
        Check.due("22 and 23 are", x.cost(0), 300);
        Check.due("the 31st", x.bar(20, 21), false);
        Check.due("one that is, of 30", x.bar(0, 1), false);
        Check.due("30 pairs still", x.count(8), 30);
        TongueCamp y = Camps.barred(30);
        Check.due("the 31st is none", y.bar(22, 23), false);
        Check.due("nor turned", y.bar(23, 22), false);
        Check.due("it costs nothing", y.cost(0), 0);
    }

    private static void refusedBars() {
        Refused.no("the 31st pair", () -> Camps.barred(30), x -> x.bar(22, 23));
        Refused.no("a pair that is, of 30", () -> Camps.barred(30), x -> x.bar(1, 0));
        Refused.no("bar(0, 0)", Camps::rich, x -> x.bar(0, 0));
        Refused.no("bar(7, 8)", Camps::rich, x -> x.bar(7, 8));
        Refused.no("bar(-1, 0)", Camps::rich, x -> x.bar(-1, 0));
        Refused.no("bar(0, -1)", Camps::rich, x -> x.bar(0, -1));
        Refused.no("bar(1, 0) again", Camps::rich, x -> x.bar(1, 0));
        Refused.no("bar(0, 1) again", Camps::rich, x -> x.bar(0, 1));
    }

    // Promise 4: "A CABIN: its number. NONE: there are 6, or other BEDS."

    private static void cabin(int beds, boolean good) {
        TongueCamp x = new TongueCamp();
        Check.due("cabin(" + beds + ")", x.cabin(beds), good ? 0 : -1);
        Check.due("cabin(" + beds + "): how many", x.count(1), good ? 1 : 0);
        Check.due("cabin(" + beds + "): beds", x.count(2), good ? beds : 0);
        Check.due("cabin(" + beds + "): cost", x.cost(0), good ? 0 : -1);
    }

    private static void beds() {
        for (int beds = -2; beds <= 11; beds++) {
            cabin(beds, beds >= 1 && beds <= 8);
        }
        for (int beds : FAR) {
            cabin(beds, false);
        }
    }

    private static void cabins6() {
        TongueCamp x = new TongueCamp();
        for (int i = 0; i < 5; i++) {
            Check.due("cabin " + i, x.cabin(8), i);
        }
        Check.due("no beds is none", x.cabin(0), -1);
        Check.due("the 6th", x.cabin(7), 5);
        Check.due("the 7th", x.cabin(1), -1);
        Check.due("the 7th, wrong, too", x.cabin(9), -1);
        Check.due("6 cabins", x.count(1), 6);
        Check.due("47 beds", x.count(2), 47);
        Check.due("cabin 5 is", x.cost(5), 0);
        Check.due("cabin 6 is not", x.cost(6), -1);
    }

    private static void refusedCabins() {
        Refused.none("a 7th cabin", () -> Camps.cabins(5, 1, 2, 1, 1, 1, 1), x -> x.cabin(8));
        Refused.none("no beds", Camps::rich, x -> x.cabin(0));
        Refused.none("nine beds", Camps::rich, x -> x.cabin(9));
    }

    // Promise 5: "false: there is none such (of either), it lies there, or no BED is free."

    private static void childrenThatLie() {
        int[] none = {-2, -1, 3, 4, 24, Integer.MIN_VALUE, Integer.MAX_VALUE};
        TongueCamp x = Camps.cabins(3, 8);
        for (int child : none) {
            Check.due("lie(" + child + ", 0)", x.lie(child, 0), false);
            Check.due("lie(" + child + ", -1)", x.lie(child, -1), false);
            Check.due("lie(" + child + ", 1)", x.lie(child, 1), false);
        }
        Check.due("nobody lies", x.count(9), 0);
        Check.due("the first child", x.lie(0, 0), true);
        Check.due("the last child", x.lie(2, 0), true);
        Check.due("two lie", x.count(9), 2);
    }

    private static void cabinsToLieIn() {
        int[] none = {-3, -2, 2, 3, 6, Integer.MIN_VALUE, Integer.MAX_VALUE};
        TongueCamp x = Camps.cabins(2, 2, 2);
        x.lie(1, 1);
        for (int cabin : none) {
            Check.due("one in none: cabin " + cabin, x.lie(0, cabin), false);
            Check.due("one that lies: cabin " + cabin, x.lie(1, cabin), false);
        }
        Check.due("in none still", x.tell(0, 3), -1);
        Check.due("in cabin 1 still", x.tell(1, 3), 1);
        Check.due("the first cabin", x.lie(0, 0), true);
        Check.due("told", x.tell(0, 3), 0);
        Check.due("the last cabin", x.lie(0, 1), true);
        Check.due("told then", x.tell(0, 3), 1);
        Check.due("none", x.lie(0, -1), true);
        Check.due("told at last", x.tell(0, 3), -1);
        TongueCamp y = Camps.children(1);
        Check.due("no cabins at all", y.lie(0, 0), false);
    }

    private static void liesThere() {
        TongueCamp x = Camps.cabins(2, 2, 1);
        Check.due("in none already", x.lie(0, -1), false);
        x.lie(0, 0);
        Check.due("there, with a free bed", x.lie(0, 0), false);
        x.lie(1, 1);
        Check.due("there, with none", x.lie(1, 1), false);
        Check.due("they lie as they did", x.tell(0, 3) * 10 + x.tell(1, 3), 1);
        x.lie(0, -1);
        Check.due("in none again", x.lie(0, -1), false);
    }

    /** Of 1 to 8 beds: the last one is free, one more isn't. */
    private static void freeBeds() {
        for (int beds = 1; beds <= 8; beds++) {
            TongueCamp x = Camps.cabins(beds + 1, 8, beds);
            x.lie(beds, 0);
            for (int i = 0; i < beds; i++) {
                Check.due(beds + " beds: child " + i, x.lie(i, 1), true);
            }
            Check.due(beds + " beds: one more", x.lie(beds, 1), false);
            Check.due(beds + " beds: it lies where it lay", x.tell(beds, 3), 0);
            Check.due(beds + " beds: all lie", x.count(9), beds + 1);
        }
    }

    private static void freedBeds() {
        TongueCamp x = Camps.cabins(3, 1, 1);
        x.lie(0, 0);
        x.lie(1, 1);
        Check.due("cabin 0 is full", x.lie(2, 0), false);
        Check.due("so is cabin 1", x.lie(0, 1), false);
        x.lie(0, -1);
        Check.due("the bed is free then", x.lie(2, 0), true);
        Check.due("and not any more", x.lie(0, 0), false);
        x.lie(1, -1);
        Check.due("over to the other", x.lie(2, 1), true);
        Check.due("by which cabin 0 is free", x.lie(1, 0), true);
    }

    private static void refusedLying() {
        Refused.no("a full cabin", Camps::rich, x -> x.lie(3, 0));
        Refused.no("a full cabin, of one in none", Camps::rich, x -> x.lie(6, 0));
        Refused.no("it lies there", Camps::rich, x -> x.lie(4, 2));
        Refused.no("it lies in none", Camps::rich, x -> x.lie(7, -1));
        Refused.no("no child 8", Camps::rich, x -> x.lie(8, 2));
        Refused.no("no child -1", Camps::rich, x -> x.lie(-1, 2));
        Refused.no("no cabin 3", Camps::rich, x -> x.lie(0, 3));
        Refused.no("no cabin -2", Camps::rich, x -> x.lie(0, -2));
    }
}
