/** Promises 26 to 30: hosts, liking, giving, marks, holding the two ways against one another. */
public final class HostsTest {
    public static void main(String[] args) {
        hosts();
        likings();
        giving();
        marks();
        held();
        Check.finish("HostsTest");
    }

    private static TongueCamp camp(int children, int hosts) {
        TongueCamp x = new TongueCamp();
        for (int i = 0; i < children; i++) {
            x.child(0, 10, false);
        }
        for (int i = 0; i < hosts; i++) {
            Check.due("host " + i, x.host(), i);
        }
        return x;
    }

    private static void hosts() {
        TongueCamp x = camp(0, 8);
        Check.due("9th host", x.host(), -1);
        Check.due("8 hosts", x.count(4), 8);
    }

    private static void likings() {
        TongueCamp x = camp(2, 2);
        Check.due("host 2", x.like(2, 0, 1), false);
        Check.due("host -1", x.like(-1, 0, 1), false);
        Check.due("child 2", x.like(0, 2, 1), false);
        Check.due("child -1", x.like(0, -1, 1), false);
        Check.due("liking 10", x.like(0, 0, 10), false);
        Check.due("liking -2", x.like(0, 0, -2), false);
        Check.due("nothing is liked", x.give(), 2000);
        Check.due("liking 9", x.like(0, 1, 9), true);
        Check.due("given by liking", x.give(), 2009);
        Check.due("1 at 0", x.tell(1, 12), 0);
        Check.due("liking 0", x.like(0, 1, 0), true);
        Check.due("as at first", x.give(), 2000);
        Check.due("won't", x.like(0, 1, -1), true);
        Check.due("won't again", x.like(0, 1, -1), true);
        x.like(1, 1, -1);
        Check.due("one is given", x.give(), 1000);
        Check.due("1 to nobody", x.tell(1, 12), -1);
        Check.due("0 to the first", x.tell(0, 12), 0);
    }

    private static void given(TongueCamp x, String what, int... hosts) {
        for (int i = 0; i < hosts.length; i++) {
            Check.due(what + ", host of " + i, x.tell(i, 12), hosts[i]);
        }
    }

    private static void giving() {
        TongueCamp x = camp(3, 2);
        Check.due("none given yet", x.tell(0, 12), -1);
        Check.due("the least row", x.give(), 2000);
        given(x, "least row", 0, 1, -1);
        // With most children before most liking: host 0 likes child 0 by 9, but only it goes to child 1, too.
        TongueCamp y = camp(2, 2);
        y.like(0, 0, 9);
        y.like(1, 0, 0);
        y.like(1, 1, -1);
        y.like(0, 1, 0);
        Check.due("most children first", y.give(), 2000);
        given(y, "most children", 1, 0);
        TongueCamp z = camp(3, 3);
        z.like(0, 2, 5);
        z.like(1, 0, 5);
        Check.due("then most liking", z.give(), 3010);
        given(z, "liking", 1, 2, 0);
        TongueCamp w = camp(3, 1);
        w.like(0, 0, 4);
        w.like(0, 1, 7);
        w.like(0, 2, 7);
        Check.due("of several the least row", w.give(), 1007);
        given(w, "least", -1, 0, -1);
        Check.due("a new child", w.child(0, 10, false), 3);
        Check.due("was not given", w.tell(3, 12), -1);
        for (int i = 0; i < 3; i++) {
            w.like(0, i, -1);
        }
        Check.due("given stays", w.tell(1, 12), 0);
        Check.due("given anew", w.give(), 1000);
        given(w, "anew", -1, -1, -1, 0);
        TongueCamp full = camp(24, 8);
        for (int h = 0; h < 8; h++) {
            for (int c = 0; c < 24; c++) {
                full.like(h, c, c == 23 - h ? 9 : 8);
            }
        }
        Check.due("all hosts", full.give(), 8072);
        given(full, "all hosts", -1, -1, -1, -1, -1, -1, -1, -1, -1, -1, -1, -1, -1, -1, -1, -1, 7, 6, 5, 4, 3, 2, 1, 0);
        Check.due("hosts without children", camp(0, 3).give(), 0);
    }

    private static void marks() {
        TongueCamp x = camp(18, 0);
        Check.due("child 18", x.mark(18, 1, 1, 0), false);
        Check.due("child -1", x.mark(-1, 1, 1, 0), false);
        Check.due("before -1", x.mark(0, -1, 1, 0), false);
        Check.due("before 101", x.mark(0, 101, 1, 0), false);
        Check.due("after -1", x.mark(0, 1, -1, 0), false);
        Check.due("after 101", x.mark(0, 1, 101, 0), false);
        Check.due("way -1", x.mark(0, 1, 1, -1), false);
        Check.due("way 2", x.mark(0, 1, 1, 2), false);
        Check.due("no marks", x.count(11), 0);
        for (int i = 0; i < 16; i++) {
            Check.due("mark " + i, x.mark(17 - i, 0, 100, i % 2), true);
        }
        Check.due("17th", x.mark(0, 0, 0, 0), false);
        Check.due("16 have marks", x.count(11), 16);
        Check.due("gain of way 1", x.held(2), 800);
        Check.due("marked anew", x.mark(17, 100, 0, 1), true);
        Check.due("16 still", x.count(11), 16);
        Check.due("way 1 now", x.held(2), 700);
        Check.due("way 0 now", x.held(3), 700);
    }

    private static void heldIs(TongueCamp x, String what, int good, int sets, int one, int nought) {
        Check.due(what + " 0", x.held(0), good);
        Check.due(what + " 1", x.held(1), sets);
        Check.due(what + " 2", x.held(2), one);
        Check.due(what + " 3", x.held(3), nought);
    }

    private static void held() {
        TongueCamp x = camp(24, 0);
        heldIs(x, "no marks", 1, 1, 0, 0);
        Check.due("what 4", x.held(4), -100000);
        Check.due("what -1", x.held(-1), -100000);
        x.mark(0, 50, 40, 0);
        heldIs(x, "one of way 0", 1, 1, 0, -10);
        x.mark(1, 50, 70, 1);
        heldIs(x, "one of each", 1, 2, 20, -10);
        x.mark(2, 0, 20, 0);
        heldIs(x, "as much counts", 2, 3, 20, 10);
        x.mark(3, 0, 5, 1);
        // Gains -10, 20, 20, 5; pairs of at least 25: 20 + 20, 20 + 5 twice.
        heldIs(x, "pairs", 3, 6, 25, 10);
        x.mark(0, 50, 40, 1);
        x.mark(2, 0, 20, 1);
        heldIs(x, "all of way 1", 1, 1, 35, 0);
        TongueCamp y = camp(24, 0);
        for (int i = 0; i < 16; i++) {
            y.mark(i, 3, 3, i % 2);
        }
        heldIs(y, "all alike", 12870, 12870, 0, 0);
        TongueCamp z = camp(24, 0);
        for (int i = 0; i < 16; i++) {
            z.mark(i, 100, 99 - i, i < 8 ? 1 : 0);
        }
        heldIs(z, "the best eight", 1, 12870, -36, -100);
        TongueCamp w = camp(24, 0);
        for (int i = 0; i < 16; i++) {
            w.mark(i, 100, 100 - i, i == 15 ? 1 : 0);
        }
        heldIs(w, "the last one", 16, 16, -15, -105);
    }
}
