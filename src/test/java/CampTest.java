/** Promises 1 to 5 and 31: a new object, children, bars, cabins, lying, counts. */
public final class CampTest {
    public static void main(String[] args) {
        newObject();
        children();
        bars();
        cabins();
        lying();
        counts();
        Check.finish("CampTest");
    }

    private static void newObject() {
        TongueCamp x = new TongueCamp();
        for (int what = 0; what <= 11; what++) {
            Check.due("new count(" + what + ")", x.count(what), 0);
        }
        Check.due("new count(-1)", x.count(-1), -1);
        Check.due("new count(12)", x.count(12), -1);
        Check.due("new tell", x.tell(0, 0), -100);
        Check.due("new fault 0", x.fault(0), 0);
        Check.due("new fault 1", x.fault(1), -1);
        Check.due("new watcher", x.watcher(0), -1);
        Check.due("new cost", x.cost(-1), 0);
        Check.due("new cost(0)", x.cost(0), -1);
        Check.due("new house", x.house(), 0);
        Check.due("new least", x.least(), 0);
        Check.due("new step", x.step(), 0);
        Check.due("new better", x.better(), 0);
        Check.due("new give", x.give(), 0);
        Check.due("new groups", x.groups(1, 1, 24), -1);
        Check.due("new watch", x.watch(1, 1, 0), -1);
        Check.due("new met", x.met(2, 2, 1, 0), -1);
        Check.due("new table", x.table(2, 2, 0, 0), -1);
        Check.due("new held 0", x.held(0), 1);
        Check.due("new held 1", x.held(1), 1);
        Check.due("new again 0", x.again(0), false);
        Check.due("new again 1", x.again(1), false);
        Check.due("new again 2", x.again(2), false);
        Check.due("new end 0", x.end(0), 0);
        Check.due("new end 1", x.end(1), -1);
        Check.due("new night", x.night(), 0);
        Check.due("NONE", TongueCamp.NONE, -1);
    }

    private static void children() {
        TongueCamp x = new TongueCamp();
        Check.due("tongue -1", x.child(-1, 10, false), -1);
        Check.due("tongue 6", x.child(6, 10, false), -1);
        Check.due("age 7", x.child(0, 7, false), -1);
        Check.due("age 18", x.child(0, 18, false), -1);
        Check.due("no child yet", x.count(0), 0);
        for (int i = 0; i < 24; i++) {
            Check.due("child " + i, x.child(i % 6, 8 + i % 10, i % 2 == 1), i);
        }
        Check.due("25th child", x.child(0, 10, false), -1);
        Check.due("24 children", x.count(0), 24);
        Check.due("tongue 0", x.tell(0, 0), 0);
        Check.due("tongue 5", x.tell(5, 0), 5);
        Check.due("age 8", x.tell(0, 1), 8);
        Check.due("age 17", x.tell(9, 1), 17);
        Check.due("not shy", x.tell(22, 2), 0);
        Check.due("shy", x.tell(23, 2), 1);
        int[] atFirst = {-1, 0, 10, 0, 5, -1, 10, 0, 0, -1, 0};
        for (int what = 3; what <= 13; what++) {
            Check.due("at first " + what, x.tell(23, what), atFirst[what - 3]);
        }
    }

    private static void bars() {
        TongueCamp x = Check.camp(Check.row(0, 10, 0), Check.row(1, 10, 0), Check.row(2, 10, 0));
        Check.due("bar one", x.bar(1, 1), false);
        Check.due("bar -1", x.bar(-1, 1), false);
        Check.due("bar 3", x.bar(0, 3), false);
        Check.due("bar", x.bar(2, 0), true);
        Check.due("bar twice", x.bar(2, 0), false);
        Check.due("bar turned", x.bar(0, 2), false);
        Check.due("one pair", x.count(8), 1);
        x.cabin(3);
        x.lie(0, 0);
        x.lie(2, 0);
        Check.due("barred cost", x.cost(0), 300);
        x.lie(1, 0);
        Check.due("bar of third free", x.cost(0), 300);

        TongueCamp y = new TongueCamp();
        for (int i = 0; i < 24; i++) {
            y.child(0, 10, false);
        }
        int pairs = 0;
        for (int a = 0; a < 2; a++) {
            for (int b = a + 1; b < 24 && pairs < 30; b++) {
                Check.due("pair " + pairs, y.bar(b, a), true);
                pairs++;
            }
        }
        Check.due("31st pair", y.bar(22, 23), false);
        Check.due("30 pairs", y.count(8), 30);
    }

    private static void cabins() {
        TongueCamp x = new TongueCamp();
        Check.due("no beds", x.cabin(0), -1);
        Check.due("9 beds", x.cabin(9), -1);
        Check.due("-1 beds", x.cabin(-1), -1);
        for (int i = 0; i < 6; i++) {
            Check.due("cabin " + i, x.cabin(i == 5 ? 8 : i + 1), i);
        }
        Check.due("7th cabin", x.cabin(1), -1);
        Check.due("cabins", x.count(1), 6);
        Check.due("beds", x.count(2), 1 + 2 + 3 + 4 + 5 + 8);
    }

    private static void lying() {
        TongueCamp x = Check.camp(Check.row(0, 10, 0), Check.row(1, 10, 0), Check.row(2, 10, 0));
        x.cabin(1);
        x.cabin(2);
        Check.due("lie none at first", x.lie(0, -1), false);
        Check.due("lie", x.lie(0, 0), true);
        Check.due("lie there", x.lie(0, 0), false);
        Check.due("no bed", x.lie(1, 0), false);
        Check.due("no cabin 2", x.lie(1, 2), false);
        Check.due("no cabin -2", x.lie(1, -2), false);
        Check.due("no child 3", x.lie(3, 1), false);
        Check.due("no child -1", x.lie(-1, 1), false);
        Check.due("no child, none", x.lie(3, -1), false);
        Check.due("second lies", x.lie(1, 1), true);
        Check.due("third lies", x.lie(2, 1), true);
        Check.due("lie to full", x.lie(0, 1), false);
        Check.due("stays", x.tell(0, 3), 0);
        Check.due("three lie", x.count(9), 3);
        Check.due("out", x.lie(1, -1), true);
        Check.due("out told", x.tell(1, 3), -1);
        Check.due("two lie", x.count(9), 2);
        Check.due("over", x.lie(0, 1), true);
        Check.due("bed is free then", x.lie(1, 0), true);
    }

    private static void counts() {
        TongueCamp x = Check.camp(Check.row(0, 10, 0), Check.row(1, 10, 0));
        x.cabin(3);
        x.cabin(4);
        x.helper(0);
        x.helper(1);
        x.helper(2);
        x.host();
        x.lie(1, 1);
        x.bar(0, 1);
        x.mark(1, 2, 3, 0);
        x.night();
        x.night();
        Check.game(x, "gain 7;stop;lose 1;");
        x.said(0, 9, 3, false, false);
        int[] want = {2, 2, 7, 3, 1, 2, 9, 3, 1, 1, 27, 1};
        for (int what = 0; what < want.length; what++) {
            Check.due("count " + what, x.count(what), want[what]);
        }
        Check.due("count 12", x.count(12), -1);
        Check.due("count -1", x.count(-1), -1);
    }
}
