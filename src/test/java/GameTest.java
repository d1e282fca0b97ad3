/** Promises 17 to 20: saying, nights, silence that pays, what is told of a child. */
public final class GameTest {
    public static void main(String[] args) {
        saying();
        verbs();
        asked();
        tests();
        run();
        nights();
        silence();
        telling();
        Check.finish("GameTest");
    }

    private static TongueCamp two(String game) {
        TongueCamp x = Check.camp(Check.row(0, 10, 0), Check.row(1, 12, 1));
        Check.game(x, game);
        return x;
    }

    private static void saying() {
        TongueCamp x = two("gain 1;");
        Check.due("no child", x.said(2, 0, 1, true, true), -1);
        Check.due("child -1", x.said(-1, 0, 1, true, true), -1);
        Check.due("hour -1", x.said(0, -1, 1, true, true), -1);
        Check.due("hour 24", x.said(0, 24, 1, true, true), -1);
        Check.due("words -1", x.said(0, 0, -1, true, true), -1);
        Check.due("words 51", x.said(0, 0, 51, true, true), -1);
        Check.due("wrong ones do nothing", x.tell(0, 13), 0);
        Check.due("nor tokens", x.count(10), 20);
        Check.due("nor hours", x.count(6), 0);
        Check.due("said", x.said(0, 5, 50, false, false), 11);
        Check.due("hour 5", x.count(6), 5);
        Check.due("hour over", x.said(1, 4, 1, false, false), -1);
        Check.due("other said nothing", x.tell(1, 13), 0);
        Check.due("same hour", x.said(1, 5, 0, false, false), 11);
        Check.due("last hour", x.said(0, 23, 50, false, false), 12);
        Check.due("words together", x.tell(0, 11), 100);
        Check.due("no words, but said", x.tell(1, 11) * 10 + x.tell(1, 13), 1);
        Check.due("without a game", Check.camp(Check.row(0, 10, 0)).said(0, 1, 2, true, false), 10);
    }

    private static void plays(String game, int tokens) {
        Check.due("by '" + game + "'", two(game).said(1, 7, 20, true, false), tokens);
    }

    private static void verbs() {
        plays("gain 5;", 15);
        plays("lose 4;", 6);
        plays("lose 11;", 0);
        plays("lose 9999;gain 2;", 2);
        plays("set 9999;gain 1;", 9999);
        plays("set 9990;gain 9999;", 9999);
        plays("set 0;", 0);
        plays("set 0007;", 7);
        plays("gain 1;stop;gain 100;", 11);
        plays("if helper:stop;gain 100;", 110);
        plays("if own:stop;gain 100;", 10);
        plays("if has=10:gain 1;if has=11:gain 2;if has=10:gain 4;", 13);
    }

    /** Of each test that asks for a number: below, equal, above. */
    private static void number(String asked, int is) {
        for (int by = -1; by <= 1; by++) {
            if (is + by >= 0) {
                plays("if " + asked + "<" + (is + by) + ":set 1;", by > 0 ? 1 : 10);
                plays("if " + asked + "=" + (is + by) + ":set 1;", by == 0 ? 1 : 10);
                plays("if " + asked + ">" + (is + by) + ":set 1;", by < 0 ? 1 : 10);
                plays("if not " + asked + ">" + (is + by) + ":set 1;", by < 0 ? 10 : 1);
            }
        }
    }

    private static void asked() {
        number("words", 20);
        number("hour", 7);
        number("day", 0);
        number("low", 0);
        number("age", 12);
        number("has", 10);
        number("run", 0);
        TongueCamp x = two("if low=4:gain 1;if day=2:gain 10;if words>20:gain 100;");
        x.task(0, 4, true);
        x.night();
        x.night();
        Check.due("two silent nights of low 4", x.tell(0, 9), 12);
        Check.due("low 4, day 2, 20 words", x.said(0, 0, 20, false, false), 23);
        Check.due("words are those said now", x.said(0, 0, 20, false, false), 34);
    }

    private static void tests() {
        plays("if own:set 1;", 1);
        plays("if not own:set 1;", 10);
        plays("if helper:set 1;", 10);
        plays("if not helper:set 1;", 1);
        plays("if shy:set 1;", 1);
        plays("if not shy:set 1;", 10);
        plays("if silent:set 1;", 10);
        plays("if not silent:set 1;", 1);
        plays("if own and shy:set 1;", 1);
        plays("if own and helper:set 1;", 10);
        plays("if helper and own:set 1;", 10);
        plays("if own and shy and not helper and age=12:set 1;", 1);
        plays("if own and shy and not helper and age=13:set 1;", 10);
        TongueCamp x = two("if shy:gain 1;if own:gain 2;if helper:gain 4;");
        Check.due("not shy, not own, helper", x.said(0, 0, 0, false, true), 14);
        Check.due("own, no helper", x.said(0, 0, 0, true, false), 16);
    }

    private static void run() {
        TongueCamp x = two("set 100;if run=0:stop;if run=1:lose 1;if run=2:lose 2;if run=3:lose 3;");
        Check.due("on day 0", x.said(0, 0, 1, false, false), 100);
        x.night();
        Check.due("never: since day 0", x.said(0, 0, 1, false, false), 99);
        Check.due("told", x.tell(0, 10), 1);
        Check.due("own now counts", x.said(0, 0, 1, true, false), 100);
        Check.due("told 0", x.tell(0, 10), 0);
        x.night();
        x.night();
        Check.due("two days ago", x.said(0, 0, 1, false, true), 98);
        Check.due("other never", x.tell(1, 10), 3);
        Check.due("a new child", x.child(3, 9, false), 2);
        Check.due("never, too", x.tell(2, 10), 3);
        Check.due("since day 0, too", x.said(2, 0, 0, false, false), 97);
    }

    private static void nights() {
        TongueCamp x = two("if silent:gain 1;if silent and hour=23 and words=0 and not own:gain 10;"
            + "if silent and not helper and day=0:gain 100;if not silent:gain 1000;if run=1:gain 2;");
        Check.due("said", x.said(0, 22, 0, true, true), 1010);
        Check.due("one said nothing", x.night(), 1);
        Check.due("spoken is as it was", x.tell(0, 9), 1010);
        Check.due("silent one played", x.tell(1, 9), 121);
        Check.due("day 1", x.count(5), 1);
        Check.due("hour 0", x.count(6), 0);
        Check.due("words are over", x.tell(0, 11), 0);
        Check.due("saying is over", x.tell(0, 13), 0);
        Check.due("two said nothing", x.night(), 2);
        Check.due("run on day 1", x.tell(0, 9), 1010 + 11 + 2);
        Check.due("run of the other", x.tell(1, 9), 121 + 11 + 2);
        Check.due("hours go from 0 again", x.said(0, 0, 1, false, false), 2023);
        Check.due("no words are said, too", two("").said(0, 0, 0, false, false), 10);
        TongueCamp y = two("lose 1;");
        y.said(0, 3, 0, false, false);
        Check.due("no words, but not silent", y.night(), 1);
        Check.due("lost by saying", y.tell(0, 9), 9);
        Check.due("lost by silence", y.tell(1, 9), 9);
    }

    private static void silence() {
        TongueCamp x = two("if silent and shy:gain 1;if silent and not shy:set 10;");
        Check.due("set to as many", x.paysSilence(0), false);
        Check.due("gains", x.paysSilence(1), true);
        Check.due("no child", x.paysSilence(2), false);
        Check.due("child -1", x.paysSilence(-1), false);
        Check.due("nothing is played", x.count(10), 20);
        Check.due("nobody is silent", x.tell(1, 13), 0);
        Check.due("day 0 still", x.count(5), 0);
        Check.game(x, "lose 3;");
        Check.due("loses", x.paysSilence(1), false);
        Check.game(x, "if hour=23 and words=0 and not own and not helper:gain 1;");
        Check.due("as in hour 23", x.paysSilence(0), true);
        x.said(0, 4, 3, true, true);
        Check.due("one that spoke is asked, too", x.paysSilence(0), true);
        Check.due("the hour stays", x.count(6), 4);
        Check.game(x, "if run=1:gain 1;");
        Check.due("run 0", x.paysSilence(0), false);
        x.night();
        Check.due("run 1", x.paysSilence(0), true);
        Check.game(x, "set 9999;");
        Check.due("to the most", x.paysSilence(0), true);
        x.said(0, 4, 3, true, true);
        Check.due("no more than the most", x.paysSilence(0), false);
        Check.due("no game", two("").paysSilence(0), false);
        TongueCamp y = two("lose 10;gain 11;");
        Check.due("down and up", y.paysSilence(0), true);
    }

    private static void telling() {
        TongueCamp x = two("gain 3;");
        x.cabin(2);
        x.lie(1, 0);
        x.task(1, 3, true);
        x.task(1, 9, false);
        x.task(1, 2, false);
        x.groups(2, 1, 1);
        x.host();
        x.give();
        x.said(1, 4, 30, false, false);
        x.said(1, 4, 12, false, false);
        int[] want = {1, 12, 1, 0, 1, 2, 1, 2, 0, 16, 0, 42, -1, 1};
        for (int what = 0; what < want.length; what++) {
            Check.due("tell 1, " + what, x.tell(1, what), want[what]);
        }
        Check.due("given", x.tell(0, 12), 0);
        Check.due("what 14", x.tell(1, 14), -100);
        Check.due("what -1", x.tell(1, -1), -100);
        Check.due("no child", x.tell(2, 0), -100);
        Check.due("child -1", x.tell(-1, 0), -100);
    }
}
