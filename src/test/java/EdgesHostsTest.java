/** Edges of promises 26 to 30, sentence by sentence: hosts, liking, giving, marks, the two ways held against one another. */
public final class EdgesHostsTest {
    private static final int LEAST = Integer.MIN_VALUE;
    private static final int MOST = Integer.MAX_VALUE;

    public static void main(String[] args) {
        hosts8();
        refusedHost();
        hostsThatLike();
        childrenLiked();
        likings();
        likedAnew();
        refusedLikings();
        nobodyToGive();
        noneThatWont();
        eachAtMostOne();
        mostChildrenFirst();
        thenMostLiking();
        thenTheLeastRow();
        givenAnew();
        givenToEight();
        childrenMarked();
        marksBeforeAndAfter();
        ways();
        marks16();
        markedAnew();
        refusedMarks();
        whatIsHeld();
        heldOfNone();
        asMuchCounts();
        setsOfK();
        gains();
        heldIsTold();
        Check.finish("EdgesHostsTest");
    }

    private static void given(TongueCamp x, String what, int... hosts) {
        for (int i = 0; i < hosts.length; i++) {
            Check.due(what + ": host of " + i, x.tell(i, 12), hosts[i]);
        }
    }

    // Promise 26: "A HOST: its number. NONE: there are 8."

    private static void hosts8() {
        TongueCamp x = new TongueCamp();
        for (int i = 0; i < 8; i++) {
            Check.due("hosts before " + i, x.count(4), i);
            Check.due("host " + i, x.host(), i);
        }
        Check.due("the 9th", x.host(), -1);
        Check.due("the 9th again", x.host(), -1);
        Check.due("8 hosts", x.count(4), 8);
        x.child(0, 10, false);
        Check.due("the last of them likes", x.like(7, 0, 5), true);
        Check.due("the 9th doesn't", x.like(8, 0, 5), false);
        Check.due("given to the last", x.give(), 1005);
        given(x, "to the last", 7);
    }

    private static void refusedHost() {
        Refused.none("a 9th host", () -> Camps.hosts(8, 8), TongueCamp::host);
    }

    // Promise 27: "false: there is none such (of either), or another LIKING."

    private static void hostsThatLike() {
        TongueCamp x = Camps.hosts(2, 3);
        for (int host : new int[] {LEAST, -2, -1, 3, 4, 8, MOST}) {
            Check.due("like by " + host, x.like(host, 0, 5), false);
            Check.due("won't by " + host, x.like(host, 1, -1), false);
        }
        Check.due("nothing by them", x.give(), 2000);
        Check.due("the first", x.like(0, 0, 5), true);
        Check.due("the last", x.like(2, 1, 4), true);
        Check.due("by these", x.give(), 2009);
        Check.due("no hosts", Camps.children(1).like(0, 0, 5), false);
        TongueCamp y = Camps.hosts(1, 7);
        Check.due("host 7 is not yet", y.like(7, 0, 5), false);
        y.host();
        Check.due("nothing stays of it", y.give(), 1000);
        Check.due("host 7 is", y.like(7, 0, 5), true);
        Check.due("and likes", y.give(), 1005);
    }

    private static void childrenLiked() {
        TongueCamp x = Camps.hosts(2, 2);
        for (int child : new int[] {LEAST, -2, -1, 2, 3, 24, MOST}) {
            Check.due("child " + child + " liked", x.like(0, child, 5), false);
            Check.due("child " + child + " not wanted", x.like(1, child, -1), false);
        }
        Check.due("nothing by that", x.give(), 2000);
        x.child(0, 10, false);
        Check.due("nor when it comes", x.give(), 2000);
        Check.due("the first", x.like(0, 0, 5), true);
        Check.due("the last", x.like(1, 2, 7), true);
        Check.due("by that", x.give(), 2012);
        Check.due("no children", Camps.hosts(0, 1).like(0, 0, 5), false);
        TongueCamp y = Camps.hosts(24, 8);
        Check.due("child 23, host 7", y.like(7, 23, 9), true);
        Check.due("child 24, host 7", y.like(7, 24, 9), false);
        Check.due("child 24 is no child 0 of another", y.like(0, 24, 9), false);
        Check.due("only one of them", y.give(), 8009);
    }

    /** "LIKING for a CHILD, 0 .. 9 (0 at first), or the CHILD and the HOST won't have one another" */
    private static void likings() {
        Check.due("at first", Camps.hosts(1, 1).give(), 1000);
        for (int liking = 0; liking <= 9; liking++) {
            TongueCamp x = Camps.hosts(1, 1);
            Check.due("liking " + liking, x.like(0, 0, liking), true);
            Check.due("given with " + liking, x.give(), 1000 + liking);
        }
        for (int liking : new int[] {LEAST, -10, -3, -2, 10, 11, 100, MOST}) {
            TongueCamp x = Camps.hosts(1, 1);
            x.like(0, 0, 3);
            Check.due("liking " + liking, x.like(0, 0, liking), false);
            Check.due("given behind " + liking, x.give(), 1003);
        }
        TongueCamp y = Camps.hosts(1, 1);
        Check.due("won't", y.like(0, 0, -1), true);
        Check.due("none given", y.give(), 0);
        given(y, "none given", -1);
    }

    private static void likedAnew() {
        TongueCamp x = Camps.hosts(1, 1);
        int[] row = {9, 9, 0, -1, -1, 0, 4};
        for (int liking : row) {
            Check.due("liking " + liking, x.like(0, 0, liking), true);
            Check.due("given with " + liking, x.give(), liking == -1 ? 0 : 1000 + liking);
        }
    }

    private static void refusedLikings() {
        Refused.no("liking 10", Camps::rich, x -> x.like(0, 1, 10));
        Refused.no("liking -2", Camps::rich, x -> x.like(0, 1, -2));
        Refused.no("host 3", Camps::rich, x -> x.like(3, 1, 9));
        Refused.no("host -1", Camps::rich, x -> x.like(-1, 1, 9));
        Refused.no("child 8", Camps::rich, x -> x.like(0, 8, 9));
        Refused.no("child -1", Camps::rich, x -> x.like(1, -1, 9));
    }

    // Promise 28: "CHILDREN are GIVEN to HOSTS: 1000 times how many, and all LIKING."

    private static void nobodyToGive() {
        Check.due("nobody at all", new TongueCamp().give(), 0);
        Check.due("no hosts", Camps.children(3).give(), 0);
        Check.due("no children", Camps.hosts(0, 8).give(), 0);
        TongueCamp x = Camps.hosts(2, 1);
        given(x, "none was given yet", -1, -1);
        x.give();
        given(x, "given", 0, -1);
        x.child(0, 10, false);
        given(x, "a new child was not", 0, -1, -1);
    }

    /** "none that won't" */
    private static void noneThatWont() {
        TongueCamp x = Camps.hosts(2, 2);
        x.like(0, 0, -1);
        x.like(1, 0, -1);
        x.like(0, 1, -1);
        Check.due("only 1 to 1", x.give(), 1000);
        given(x, "only 1 to 1", -1, 1);
        x.like(1, 1, -1);
        Check.due("none at all", x.give(), 0);
        given(x, "none at all", -1, -1);
    }

    /** "each HOST at most one CHILD, each CHILD at most one HOST" */
    private static void eachAtMostOne() {
        TongueCamp x = Camps.hosts(3, 1);
        for (int child = 0; child < 3; child++) {
            x.like(0, child, 9);
        }
        Check.due("one host, three children", x.give(), 1009);
        given(x, "one host", 0, -1, -1);
        TongueCamp y = Camps.hosts(1, 3);
        for (int host = 0; host < 3; host++) {
            y.like(host, 0, 9);
        }
        Check.due("one child, three hosts", y.give(), 1009);
        given(y, "one child", 0);
    }

    private static void mostChildrenFirst() {
        TongueCamp x = Camps.hosts(2, 2);
        x.like(0, 0, 9);
        x.like(1, 1, -1);
        Check.due("two for 0 rather than one for 9", x.give(), 2000);
        given(x, "two", 1, 0);
        // Nine more of liking eight times over are less than one child more.
        TongueCamp y = Camps.hosts(9, 8);
        for (int i = 0; i < 8; i++) {
            y.like(i, i, 9);
            for (int other = 0; other < 8; other++) {
                if (other != i && other != i - 1) {
                    y.like(i, other, -1);
                }
            }
            y.like(i, 8, i == 0 ? 0 : -1);
        }
        y.like(7, 7, -1);
        // Child 7 goes to none then; to have eight, each child i goes to host i + 1, and child 8 to host 0.
        Check.due("all eight for 0", y.give(), 8000);
        given(y, "all eight", 1, 2, 3, 4, 5, 6, 7, -1, 0);
    }

    private static void thenMostLiking() {
        TongueCamp x = Camps.hosts(2, 2);
        x.like(0, 0, 4);
        x.like(1, 1, 4);
        x.like(0, 1, 9);
        Check.due("9 and 0 rather than 4 and 4", x.give(), 2009);
        given(x, "9 and 0", 1, 0);
        x.like(0, 1, 7);
        Check.due("4 and 4 rather than 7", x.give(), 2008);
        given(x, "4 and 4", 0, 1);
        x.like(0, 1, 8);
        Check.due("8 and 8: the least row", x.give(), 2008);
        given(x, "8 and 8", 0, 1);
    }

    /** "that whose row, CHILD by CHILD (its HOST; 9 without), is least" */
    private static void thenTheLeastRow() {
        TongueCamp x = Camps.hosts(3, 2);
        Check.due("all alike", x.give(), 2000);
        given(x, "all alike", 0, 1, -1);
        TongueCamp y = Camps.hosts(3, 8);
        Check.due("more hosts than children", y.give(), 3000);
        given(y, "more hosts than children", 0, 1, 2);
        TongueCamp z = Camps.hosts(2, 8);
        for (int host = 0; host < 7; host++) {
            z.like(host, 0, -1);
        }
        Check.due("host 7 is less than none", z.give(), 2000);
        given(z, "host 7 is less than none", 7, 0);
        TongueCamp w = Camps.hosts(3, 1);
        w.like(0, 1, 3);
        w.like(0, 2, 3);
        Check.due("the first that is liked", w.give(), 1003);
        given(w, "the first that is liked", -1, 0, -1);
        TongueCamp v = Camps.hosts(3, 3);
        v.like(2, 0, 5);
        v.like(1, 0, 5);
        Check.due("5 by either", v.give(), 3005);
        given(v, "5 by either", 1, 0, 2);
    }

    private static void givenAnew() {
        TongueCamp x = Camps.hosts(2, 1);
        x.give();
        x.like(0, 0, -1);
        given(x, "until given anew", 0, -1);
        Check.due("to the other", x.give(), 1000);
        given(x, "to the other", -1, 0);
        x.like(0, 1, -1);
        Check.due("to none", x.give(), 0);
        given(x, "to none", -1, -1);
    }

    private static void givenToEight() {
        TongueCamp x = Camps.hosts(24, 8);
        Check.due("24 and 8", x.give(), 8000);
        given(x, "24 and 8", 0, 1, 2, 3, 4, 5, 6, 7, -1, -1, -1, -1, -1, -1, -1, -1, -1, -1, -1, -1, -1, -1, -1, -1);
        for (int host = 0; host < 8; host++) {
            x.like(host, 23 - host, 9);
        }
        Check.due("24 and 8, each 9", x.give(), 8072);
        given(x, "each 9", -1, -1, -1, -1, -1, -1, -1, -1, -1, -1, -1, -1, -1, -1, -1, -1, 7, 6, 5, 4, 3, 2, 1, 0);
    }

    // Promise 29: "false: there is none such, other numbers, or 16 others have MARKS."

    private static void childrenMarked() {
        TongueCamp x = Camps.children(3);
        for (int child : new int[] {LEAST, -2, -1, 3, 4, 24, MOST}) {
            Check.due("marks of " + child, x.mark(child, 10, 20, 1), false);
        }
        Check.due("nobody has marks", x.count(11), 0);
        Check.due("the first", x.mark(0, 10, 20, 1), true);
        Check.due("the last", x.mark(2, 10, 20, 1), true);
        Check.due("two have marks", x.count(11), 2);
        Check.due("nobody is there", new TongueCamp().mark(0, 10, 20, 1), false);
    }

    /** "one before, one after, 0 .. 100", "GAIN: after less before" */
    private static void marksBeforeAndAfter() {
        int[] good = {0, 1, 50, 99, 100};
        for (int before : good) {
            for (int after : good) {
                TongueCamp x = Camps.children(1);
                Check.due("marks " + before + ", " + after, x.mark(0, before, after, 1), true);
                Check.due("gain of " + before + ", " + after, x.held(2), after - before);
            }
        }
        for (int wrong : new int[] {LEAST, -100, -2, -1, 101, 102, 1000, MOST}) {
            TongueCamp x = Camps.children(1);
            Check.due(wrong + " before", x.mark(0, wrong, 50, 1), false);
            Check.due(wrong + " after", x.mark(0, 50, wrong, 1), false);
            Check.due(wrong + " both", x.mark(0, wrong, wrong, 1), false);
            Check.due("no marks by " + wrong, x.count(11), 0);
        }
    }

    /** "its WAY of teaching, 0 or 1" */
    private static void ways() {
        for (int way : new int[] {LEAST, -2, -1, 2, 3, MOST}) {
            TongueCamp x = Camps.children(1);
            Check.due("way " + way, x.mark(0, 10, 30, way), false);
            Check.due("no marks by way " + way, x.count(11), 0);
        }
        for (int way = 0; way <= 1; way++) {
            TongueCamp x = Camps.children(1);
            Check.due("way " + way, x.mark(0, 10, 30, way), true);
            Check.due("way " + way + ": of 1", x.held(2), way == 1 ? 20 : 0);
            Check.due("way " + way + ": of 0", x.held(3), way == 1 ? 0 : 20);
        }
    }

    private static void marks16() {
        TongueCamp x = Camps.marked(15);
        Check.due("15 have marks", x.count(11), 15);
        Check.due("none for a wrong one", x.mark(16, 0, 101, 1), false);
        Check.due("the 16th", x.mark(16, 0, 100, 1), true);
        Check.due("16 have marks", x.count(11), 16);
        Check.due("the 17th", x.mark(15, 0, 0, 0), false);
        Check.due("16 still", x.count(11), 16);
        Check.due("how many sets", x.held(1), 12870);
    }

    /** "16 others": the sixteen that have marks may be marked anew, and always the same one. */
    private static void markedAnew() {
        TongueCamp x = Camps.marked(16);
        for (int i = 0; i < 16; i++) {
            Check.due("anew " + i, x.mark(i, 40, 41, 1), true);
            Check.due("16 of them by " + i, x.count(11), 16);
        }
        Check.due("all of way 1", x.held(2), 16);
        Check.due("none of way 0", x.held(3), 0);
        Check.due("the 17th still", x.mark(16, 40, 41, 1), false);
        TongueCamp y = Camps.children(1);
        Check.due("marked", y.mark(0, 0, 100, 1), true);
        Check.due("marked again", y.mark(0, 100, 0, 0), true);
        Check.due("one has marks", y.count(11), 1);
        Check.due("not of way 1 any more", y.held(2), 0);
        Check.due("of way 0", y.held(3), -100);
    }

    private static void refusedMarks() {
        Refused.no("the 17th", () -> Camps.marked(16), x -> x.mark(16, 0, 100, 1));
        Refused.no("wrong marks of the 16th", () -> Camps.marked(16), x -> x.mark(15, 0, 101, 0));
        int[][] wrong = {{8, 0, 100, 0}, {-1, 0, 100, 0}, {0, -1, 100, 0}, {0, 101, 100, 0}, {0, 0, -1, 0},
            {0, 0, 101, 0}, {0, 0, 100, -1}, {0, 0, 100, 2}, {1, 0, 100, 2}, {1, -1, 100, 1}};
        for (int[] n : wrong) {
            Refused.no("mark(" + n[0] + ", " + n[1] + ", " + n[2] + ", " + n[3] + ")", Camps::rich,
                x -> x.mark(n[0], n[1], n[2], n[3]));
        }
    }

    // Promise 30: "-100000 for another what."

    private static void held(TongueCamp x, String what, int good, int sets, int one, int nought) {
        Check.due(what + ": held(0)", x.held(0), good);
        Check.due(what + ": held(1)", x.held(1), sets);
        Check.due(what + ": held(2)", x.held(2), one);
        Check.due(what + ": held(3)", x.held(3), nought);
    }

    private static void whatIsHeld() {
        TongueCamp x = Camps.marked(4);
        // Gains 20, 22, 24, 26; of way 1 are 22 and 26: of six pairs 22 + 26 and 24 + 26 are as much.
        held(x, "four", 2, 6, 48, 44);
        for (int what : new int[] {LEAST, -2, -1, 4, 5, MOST}) {
            Check.due("held(" + what + ")", x.held(what), -100000);
            Check.due("held(" + what + ") of nobody", new TongueCamp().held(what), -100000);
        }
    }

    private static void heldOfNone() {
        held(new TongueCamp(), "nobody", 1, 1, 0, 0);
        held(Camps.children(24), "no marks", 1, 1, 0, 0);
        for (int gain : new int[] {-100, -1, 0, 1, 100}) {
            TongueCamp x = Camps.children(1);
            x.mark(0, gain < 0 ? -gain : 0, gain < 0 ? 0 : gain, 0);
            held(x, "one of way 0, " + gain, 1, 1, 0, gain);
            x.mark(0, gain < 0 ? -gain : 0, gain < 0 ? 0 : gain, 1);
            held(x, "one of way 1, " + gain, 1, 1, gain, 0);
        }
    }

    /** "at least as much together as those of WAY 1" */
    private static void asMuchCounts() {
        int[] due = {1, 2, 2};
        for (int by = -1; by <= 1; by++) {
            TongueCamp x = Camps.children(2);
            x.mark(0, 50, 60, 1);
            x.mark(1, 50, 60 + by, 0);
            held(x, "one by " + by, due[by + 1], 2, 10, 10 + by);
            TongueCamp y = Camps.children(2);
            y.mark(0, 60, 50 + by, 0);
            y.mark(1, 60, 50, 1);
            held(y, "less by " + by, due[by + 1], 2, -10, -10 + by);
        }
    }

    /** "k of WAY 1: of all sets of k of the n", of all n up to 16, all gains alike. */
    private static void setsOfK() {
        int[] row = new int[17];
        row[0] = 1;
        for (int n = 0; n <= 16; n++) {
            for (int k = 0; k <= n; k++) {
                TongueCamp x = Camps.children(n);
                for (int i = 0; i < n; i++) {
                    x.mark(i, 30, 33, i < k ? 1 : 0);
                }
                held(x, k + " of " + n, row[k], row[k], 3 * k, 3 * (n - k));
            }
            for (int k = 16; k > 0; k--) {
                row[k] += row[k - 1];
            }
        }
    }

    private static void gains() {
        for (int best = 0; best <= 1; best++) {
            TongueCamp x = Camps.children(24);
            for (int i = 0; i < 16; i++) {
                boolean one = i % 2 == 1;
                x.mark(8 + i, one ? 0 : 100, one ? 100 : 0, one ? best : 1 - best);
            }
            held(x, "the most it can be, " + best, best == 1 ? 1 : 12870, 12870, best == 1 ? 800 : -800,
                best == 1 ? -800 : 800);
        }
        // The gains are 1, 2, 4 .. of the first seven: each set has a sum of its own.
        TongueCamp y = Camps.children(16);
        for (int i = 0; i < 7; i++) {
            y.mark(2 * i, 0, 1 << i, i == 3 ? 1 : 0);
        }
        held(y, "8 of 1 .. 64", 4, 7, 8, 119);
        y.mark(12, 0, 64, 1);
        // 72 of pairs: 64 + 8, 64 + 16, 64 + 32.
        held(y, "72 of pairs", 3, 21, 72, 55);
        // The ninth and those behind it count as the first eight do.
        TongueCamp z = Camps.children(16);
        for (int i = 0; i < 16; i++) {
            z.mark(i, 0, i + 1, i == 11 ? 1 : 0);
        }
        held(z, "12 of 1 .. 16", 5, 16, 12, 124);
    }

    private static void heldIsTold() {
        for (int what = 0; what <= 3; what++) {
            int of = what;
            int[] due = {4, 6, 0, 45};
            Refused.answers("held(" + what + ")", due[what], Camps::rich, x -> x.held(of));
        }
        Refused.answers("held(4)", -100000, Camps::rich, x -> x.held(4));
        Refused.answers("held(-1)", -100000, Camps::rich, x -> x.held(-1));
    }
}
