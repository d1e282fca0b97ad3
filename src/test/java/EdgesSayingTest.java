/** Edges of promises 17 to 20, sentence by sentence: saying, nights, silence that pays, what is told of a child. */
public final class EdgesSayingTest {
    private static final int LEAST = Integer.MIN_VALUE;
    private static final int MOST = Integer.MAX_VALUE;

    public static void main(String[] args) {
        childrenThatSay();
        hours();
        hoursThatAreOver();
        words();
        refusedSaying();
        refusedSayingIsSilence();
        tokensAtMost();
        tokensAtLeast();
        tokensLineByLine();
        stops();
        testsOfYesAndNo();
        testsOfEachLine();
        wordsAsked();
        hoursAsked();
        daysAsked();
        lowAsked();
        agesAsked();
        tokensAsked();
        runAsked();
        runToldSinceDay0();
        runOfWhatIsSaidNow();
        silentOnes();
        silentAsWhat();
        theNextDay();
        dayAfterDay();
        pays();
        paysAtTheMost();
        paysNobody();
        whatIsTold();
        whoIsTold();
        the512thCall();
        Check.finish("EdgesSayingTest");
    }

    /** Two children, 10 and 12 years old, the second one shy, and a game. */
    private static TongueCamp two(String game) {
        TongueCamp x = Check.camp(Check.row(0, 10, 0), Check.row(1, 12, 1));
        Check.game(x, game);
        return x;
    }

    // Promise 17: "NONE: there is none such, other numbers, or an HOUR that is over."

    private static void childrenThatSay() {
        TongueCamp x = two("gain 1;");
        for (int child : new int[] {LEAST, -2, -1, 2, 3, 24, MOST}) {
            Check.due("said by " + child, x.said(child, 3, 1, true, true), -1);
        }
        Check.due("nobody said it", x.count(10) * 100 + x.count(6), 2000);
        Check.due("the first", x.said(0, 0, 1, true, true), 11);
        Check.due("the last", x.said(1, 0, 1, true, true), 11);
        Check.due("nobody is there", new TongueCamp().said(0, 0, 1, true, true), -1);
        TongueCamp y = Camps.children(24);
        Check.due("child 23", y.said(23, 0, 1, true, true), 10);
        Check.due("child 24", y.said(24, 0, 1, true, true), -1);
    }

    /** "HOURS are 0 .. 23" */
    private static void hours() {
        for (int hour = 0; hour <= 23; hour++) {
            TongueCamp x = two("gain 1;");
            Check.due("hour " + hour, x.said(0, hour, 1, false, false), 11);
            Check.due("latest hour " + hour, x.count(6), hour);
        }
        for (int hour : new int[] {LEAST, -24, -2, -1, 24, 25, 47, MOST}) {
            TongueCamp x = two("gain 1;");
            Check.due("hour " + hour, x.said(0, hour, 1, false, false), -1);
            Check.due("latest hour is not " + hour, x.count(6), 0);
            Check.due("nothing said in hour " + hour, x.tell(0, 13) + x.tell(0, 11), 0);
        }
    }

    /** "not less than the latest one of that DAY", whoever said it. */
    private static void hoursThatAreOver() {
        for (int latest = 0; latest <= 23; latest++) {
            TongueCamp x = two("gain 1;");
            x.said(0, latest, 1, false, false);
            Check.due("before " + latest, x.said(1, latest - 1, 1, false, false), -1);
            Check.due("before " + latest + ", the same one", x.said(0, latest - 1, 1, false, false), -1);
            Check.due("hour 0 again", x.said(1, 0, 1, false, false), latest == 0 ? 11 : -1);
            Check.due("latest is " + latest, x.count(6), latest);
            Check.due("in " + latest, x.said(0, latest, 1, false, false), 12);
            Check.due("behind " + latest, x.said(0, latest + 1, 1, false, false), latest == 23 ? -1 : 13);
            Check.due("the latest then", x.count(6), Math.min(23, latest + 1));
            Check.due("over now", x.said(0, latest, 1, false, false), latest == 23 ? 13 : -1);
        }
        TongueCamp y = two("gain 1;");
        y.said(0, 23, 1, false, false);
        y.night();
        Check.due("a new day begins at 0", y.said(0, 0, 1, false, false), 12);
        Check.due("hour 0 is the latest", y.count(6), 0);
    }

    /** "so many words, 0 .. 50" */
    private static void words() {
        for (int words : new int[] {LEAST, -50, -2, -1, 51, 52, 100, MOST}) {
            TongueCamp x = two("gain 1;");
            Check.due(words + " words", x.said(0, 5, words, true, true), -1);
            Check.due("nothing by " + words + " words", x.count(6) + x.tell(0, 11) + x.tell(0, 13), 0);
        }
        TongueCamp x = two("gain 1;");
        int[] good = {0, 1, 2, 49, 50, 50};
        int all = 0;
        for (int i = 0; i < good.length; i++) {
            Check.due(good[i] + " words", x.said(0, 5, good[i], true, true), 11 + i);
            all += good[i];
            Check.due("words today by " + good[i], x.tell(0, 11), all);
        }
        Check.due("no words of the other", x.tell(1, 11), 0);
    }

    private static void refusedSaying() {
        Refused.none("said by child 8", Camps::rich, x -> x.said(8, 23, 50, true, true));
        Refused.none("said by child -1", Camps::rich, x -> x.said(-1, 23, 50, true, true));
        Refused.none("said in hour 24", Camps::rich, x -> x.said(1, 24, 50, true, true));
        Refused.none("said in hour 8", Camps::rich, x -> x.said(1, 8, 50, true, true));
        Refused.none("said in hour -1", Camps::rich, x -> x.said(1, -1, 50, true, true));
        Refused.none("51 words", Camps::rich, x -> x.said(1, 23, 51, true, true));
        Refused.none("-1 words", Camps::rich, x -> x.said(1, 23, -1, true, true));
    }

    private static void refusedSayingIsSilence() {
        TongueCamp x = two("if silent:gain 5;");
        x.night();
        x.said(0, 4, 51, true, true);
        x.said(0, 24, 5, true, true);
        Check.due("run goes on", x.tell(0, 10), 1);
        Check.due("both are silent", x.night(), 2);
        Check.due("and paid for it", x.tell(0, 9), 20);
    }

    // Term 3: "TOKENS, 0 .. 9999 (10 at first)", "gain: so many TOKENS more, lose: fewer, set: so many (0 .. 9999 always)"

    private static void plays(String game, int tokens) {
        Check.due("by '" + game + "'", two(game).said(1, 7, 20, true, false), tokens);
    }

    private static void tokensAtMost() {
        plays("gain 0;", 10);
        plays("gain 1;", 11);
        plays("gain 9988;", 9998);
        plays("gain 9989;", 9999);
        plays("gain 9990;", 9999);
        plays("gain 9991;", 9999);
        plays("gain 9999;", 9999);
        plays("set 9998;gain 1;", 9999);
        plays("set 9998;gain 2;", 9999);
        plays("set 9999;gain 0;", 9999);
        plays("set 9999;gain 1;", 9999);
        plays("set 9999;gain 9999;", 9999);
        plays("set 9998;", 9998);
        plays("set 9999;", 9999);
    }

    private static void tokensAtLeast() {
        plays("lose 0;", 10);
        plays("lose 1;", 9);
        plays("lose 9;", 1);
        plays("lose 10;", 0);
        plays("lose 11;", 0);
        plays("lose 9999;", 0);
        plays("set 0;", 0);
        plays("set 1;", 1);
        plays("set 0;lose 1;", 0);
        plays("set 1;lose 1;", 0);
        plays("set 9999;lose 9999;", 0);
        plays("set 9999;lose 9998;", 1);
    }

    /** They stay within 0 .. 9999 line by line, not at the end alone. */
    private static void tokensLineByLine() {
        plays("gain 9999;lose 9;", 9990);
        plays("lose 20;gain 5;", 5);
        plays("gain 9999;gain 9999;lose 9999;gain 1;", 1);
        plays("lose 11;if has=0:gain 3;", 3);
        plays("gain 9990;if has=9999:lose 1;", 9998);
        plays("if has=10:gain 1;if has=10:gain 1;", 11);
        plays("gain 1;gain 1;gain 1;gain 1;gain 1;gain 1;gain 1;gain 1;gain 1;gain 1;gain 1;gain 1;gain 1;gain 1;gain 1;"
            + "gain 100;", 125);
        TongueCamp x = two("gain 5000;");
        Check.due("5010", x.said(0, 0, 1, false, false), 5010);
        Check.due("9999", x.said(0, 0, 1, false, false), 9999);
        Check.due("9999 still", x.said(0, 0, 1, false, false), 9999);
        Check.due("the other's are its own", x.tell(1, 9), 10);
        Check.due("together", x.count(10), 10009);
        Check.due("no game, none more", two("").said(0, 0, 50, true, true), 10);
    }

    /** "stop: no further LINE" */
    private static void stops() {
        plays("stop;gain 1;", 10);
        plays("gain 1;stop;", 11);
        plays("gain 1;stop;stop;gain 1;", 11);
        plays("if not own:stop;gain 1;", 11);
        plays("if own:stop;gain 1;", 10);
        plays("gain 1;if has=11:stop;gain 1;if has=12:stop;gain 5;", 11);
    }

    /** "if all its TESTS hold": the one that doesn't may stand anywhere. */
    private static void testsOfYesAndNo() {
        plays("if own and own and own and own:set 1;", 1);
        plays("if helper and own and own and own:set 1;", 10);
        plays("if own and helper and own and own:set 1;", 10);
        plays("if own and own and helper and own:set 1;", 10);
        plays("if own and own and own and helper:set 1;", 10);
        plays("if not helper and not silent and shy and own:set 1;", 1);
        plays("if not shy:set 1;", 10);
        String[] tests = {"own", "helper", "shy", "silent"};
        for (int bits = 0; bits < 8; bits++) {
            boolean[] are = {(bits & 1) != 0, (bits & 2) != 0, (bits & 4) != 0, false};
            for (int i = 0; i < tests.length; i++) {
                int child = are[2] ? 1 : 0;
                Check.due(tests[i] + " of " + bits, two("if " + tests[i] + ":set 1;").said(child, 0, 5, are[0], are[1]),
                    are[i] ? 1 : 10);
                Check.due("not " + tests[i] + " of " + bits,
                    two("if not " + tests[i] + ":set 1;").said(child, 0, 5, are[0], are[1]), are[i] ? 10 : 1);
            }
        }
    }

    /** Whatever LINE it is and wherever a TEST stands in it, it is asked, negated or not, with its sign and its number. */
    private static void testsOfEachLine() {
        String[] tests = {"not own", "hour>5", "not helper", "words=7"};
        for (int line = 0; line < 16; line++) {
            for (int turn = 0; turn < 4; turn++) {
                StringBuilder text = new StringBuilder("lose 0;".repeat(line)).append("if ").append(tests[turn]);
                for (int i = 1; i < 4; i++) {
                    text.append(" and ").append(tests[(turn + i) % 4]);
                }
                String game = text.append(":gain 9;").append("lose 0;".repeat(15 - line)).toString();
                String what = "line " + line + ", turn " + turn + ": ";
                Check.due(what + "all hold", two(game).said(0, 6, 7, false, false), 19);
                Check.due(what + "own", two(game).said(0, 6, 7, true, false), 10);
                Check.due(what + "hour 5", two(game).said(0, 5, 7, false, false), 10);
                Check.due(what + "to a helper", two(game).said(0, 6, 7, false, true), 10);
                Check.due(what + "6 words", two(game).said(0, 6, 6, false, false), 10);
                Check.due(what + "8 words", two(game).said(0, 6, 8, false, false), 10);
                TongueCamp x = two(game);
                x.image(1);
                Check.game(x, "");
                x.again(1);
                Check.due(what + "of an image", x.said(0, 6, 7, false, false), 19);
                Check.due(what + "of an image, 8 words", x.said(0, 6, 8, false, false), 19);
            }
        }
    }

    /** Who says something to a camp with a game: its tokens then. */
    private interface Saying {
        int under(String game);
    }

    /** "('<' | '>' | '=') NUMBER": of what is asked, the number that it is, the one before it and the one behind it. */
    private static void edge(String asked, int is, Saying saying) {
        for (int number = Math.max(0, is - 1); number <= Math.min(9999, is + 1); number++) {
            String what = asked + " is " + is + ": ";
            Check.due(what + "<" + number, saying.under("if " + asked + "<" + number + ":set 77;") == 77, is < number);
            Check.due(what + ">" + number, saying.under("if " + asked + ">" + number + ":set 77;") == 77, is > number);
            Check.due(what + "=" + number, saying.under("if " + asked + "=" + number + ":set 77;") == 77, is == number);
            Check.due(what + "not <" + number, saying.under("if not " + asked + "<" + number + ":set 77;") == 77, is >= number);
            Check.due(what + "not >" + number, saying.under("if not " + asked + ">" + number + ":set 77;") == 77, is <= number);
            Check.due(what + "not =" + number, saying.under("if not " + asked + "=" + number + ":set 77;") == 77, is != number);
        }
    }

    private static void wordsAsked() {
        for (int words : new int[] {0, 1, 49, 50}) {
            edge("words", words, game -> two(game).said(0, 3, words, true, true));
        }
        // What is said now, not all that was said today.
        edge("words", 4, game -> {
            TongueCamp x = two("");
            x.said(0, 3, 50, true, true);
            Check.game(x, game);
            return x.said(0, 3, 4, true, true);
        });
    }

    private static void hoursAsked() {
        for (int hour : new int[] {0, 1, 22, 23}) {
            edge("hour", hour, game -> two(game).said(0, hour, 5, true, true));
        }
    }

    private static void daysAsked() {
        for (int days = 0; days <= 3; days++) {
            int many = days;
            edge("day", days, game -> after(many, game).said(0, 3, 5, true, true));
        }
        edge("day", 400, game -> after(400, game).said(0, 3, 5, true, true));
    }

    /** Two children after so many days without a game, then with one. */
    private static TongueCamp after(int days, String game) {
        TongueCamp x = two("");
        for (int i = 0; i < days; i++) {
            x.night();
        }
        Check.game(x, game);
        return x;
    }

    private static void lowAsked() {
        edge("low", 0, game -> two(game).said(0, 3, 5, true, true));
        for (int low : new int[] {1, 5, 10}) {
            edge("low", low, game -> {
                TongueCamp x = two(game);
                x.task(0, low, true);
                return x.said(0, 3, 5, true, true);
            });
        }
    }

    private static void agesAsked() {
        for (int age : new int[] {8, 9, 16, 17}) {
            edge("age", age, game -> {
                TongueCamp x = Check.camp(Check.row(3, age, 0));
                Check.game(x, game);
                return x.said(0, 3, 5, true, true);
            });
        }
    }

    private static void tokensAsked() {
        for (int has : new int[] {0, 1, 10, 9998, 9999}) {
            edge("has", has, game -> two("set " + has + ";" + game).said(0, 3, 5, true, true));
        }
    }

    /** "run: how many DAYS ago it last said something in its own tongue" */
    private static void runAsked() {
        for (int days = 0; days <= 3; days++) {
            int many = days;
            edge("run", days, game -> {
                TongueCamp x = after(2, "");
                x.said(0, 3, 5, true, true);
                for (int i = 0; i < many; i++) {
                    x.night();
                }
                Check.game(x, game);
                return x.said(0, 3, 5, false, true);
            });
            edge("run", days, game -> after(many, game).said(0, 3, 5, false, true));
        }
    }

    /** "since DAY 0 if never" */
    private static void runToldSinceDay0() {
        TongueCamp x = two("");
        for (int day = 0; day <= 5; day++) {
            Check.due("never, on day " + day, x.tell(0, 10), day);
            x.said(0, 0, 5, false, true);
            Check.due("not in its own, on day " + day, x.tell(0, 10), day);
            int late = x.child(2, 9, false);
            Check.due("came on day " + day, x.tell(late, 10), day);
            x.night();
        }
    }

    /** "what is SAID now, too" */
    private static void runOfWhatIsSaidNow() {
        TongueCamp x = after(3, "if run=0:gain 1;if run=3:gain 100;");
        Check.due("own, now", x.said(0, 0, 5, true, false), 11);
        Check.due("run is 0", x.tell(0, 10), 0);
        Check.due("of today still", x.said(0, 0, 5, false, false), 12);
        Check.due("not own, now", x.said(1, 0, 5, false, false), 110);
        x.night();
        Check.due("a day ago", x.tell(0, 10), 1);
        Check.due("four days", x.tell(1, 10), 4);
        Check.due("without a word, but own", x.said(1, 0, 0, true, false), 111);
        Check.due("run by no words", x.tell(1, 10), 0);
    }

    // Promise 18: "A DAY ends: how many CHILDREN said nothing on it."

    private static void silentOnes() {
        Check.due("nobody is there", new TongueCamp().night(), 0);
        TongueCamp x = two("if silent:gain 1;if not silent:gain 100;");
        Check.due("all are silent", x.night(), 2);
        Check.due("both by it", x.tell(0, 9) * 100 + x.tell(1, 9), 1111);
        x.said(1, 3, 0, false, false);
        Check.due("one is silent", x.night(), 1);
        Check.due("the one that said something is not", x.tell(1, 9), 111);
        Check.due("the other is", x.tell(0, 9), 12);
        x.said(0, 3, 50, true, false);
        x.said(1, 3, 1, false, true);
        Check.due("none is silent", x.night(), 0);
        Check.due("tokens stay by night", x.tell(0, 9) * 1000 + x.tell(1, 9), 112211);
        TongueCamp y = Camps.children(24);
        Check.due("24 are silent", y.night(), 24);
        y.said(23, 0, 0, false, false);
        Check.due("23 are", y.night(), 23);
    }

    /** "as if it were SAID in HOUR 23, no words, not own, to no helper, but silent" */
    private static void silentAsWhat() {
        edge("hour", 23, EdgesSayingTest::byNight);
        edge("words", 0, EdgesSayingTest::byNight);
        edge("day", 2, EdgesSayingTest::byNight);
        edge("run", 1, EdgesSayingTest::byNight);
        edge("has", 10, EdgesSayingTest::byNight);
        edge("age", 12, EdgesSayingTest::byNight);
        Check.due("silent", byNight("if silent:set 77;"), 77);
        Check.due("not own", byNight("if own:set 77;"), 10);
        Check.due("no helper", byNight("if helper:set 77;"), 10);
        Check.due("shy as it is", byNight("if shy:set 77;"), 77);
        Check.due("stops", byNight("stop;set 77;"), 10);
    }

    /** Child 1 said something on day 1, the other in hour 4 of day 2: the silent one's tokens behind it. */
    private static int byNight(String game) {
        TongueCamp x = after(1, "");
        x.said(1, 3, 20, true, true);
        x.night();
        x.said(0, 4, 30, true, true);
        Check.game(x, game);
        x.night();
        return x.tell(1, 9);
    }

    /** "Then it is HOUR 0 of the next DAY." */
    private static void theNextDay() {
        TongueCamp x = two("");
        x.said(0, 23, 50, true, true);
        Check.due("day 0", x.count(5), 0);
        Check.due("hour 23", x.count(6), 23);
        x.night();
        Check.due("day 1", x.count(5), 1);
        Check.due("hour 0", x.count(6), 0);
        Check.due("no words today", x.tell(0, 11), 0);
        Check.due("said nothing today", x.tell(0, 13), 0);
        x.said(1, 0, 0, false, false);
        Check.due("hour 0 is not over", x.tell(1, 13), 1);
        x.night();
        Check.due("day 2", x.count(5), 2);
        Check.due("hour 0 of it", x.count(6), 0);
    }

    /** "NONE: it is DAY 9999": on none of the days that 512 calls come to. */
    private static void dayAfterDay() {
        TongueCamp x = new TongueCamp();
        for (int day = 0; day < 500; day++) {
            Check.due("night of day " + day, x.night(), 0);
        }
        Check.due("day 500", x.count(5), 500);
        Check.due("run of who comes", x.tell(x.child(0, 10, false), 10), 500);
    }

    // Promise 19: "if it would have more TOKENS by being silent today (asked as that, now) than it has"

    private static void pays() {
        Check.due("one more", two("if silent:gain 1;").paysSilence(0), true);
        Check.due("as many", two("if silent:gain 0;").paysSilence(0), false);
        Check.due("one fewer", two("if silent:lose 1;").paysSilence(0), false);
        Check.due("set to 9", two("set 9;").paysSilence(0), false);
        Check.due("set to 10", two("set 10;").paysSilence(0), false);
        Check.due("set to 11", two("set 11;").paysSilence(0), true);
        Check.due("down and up by one", two("lose 10;gain 11;").paysSilence(0), true);
        Check.due("no game", two("").paysSilence(0), false);
        Check.due("what is said pays, not silence", two("if not silent:gain 5;").paysSilence(0), false);
        TongueCamp x = two("if silent and hour=23 and words=0 and not own:gain 1;if helper:lose 1;");
        x.said(0, 5, 9, true, true);
        Check.due("who said something is asked as silent, too", x.paysSilence(0), true);
        Check.due("who didn't", x.paysSilence(1), true);
    }

    private static void paysAtTheMost() {
        TongueCamp x = two("if silent:gain 1;if not silent:set 9998;");
        x.said(0, 0, 1, false, false);
        Check.due("9998", x.paysSilence(0), true);
        TongueCamp y = two("if silent:gain 1;if not silent:set 9999;");
        y.said(0, 0, 1, false, false);
        Check.due("9999", y.paysSilence(0), false);
        TongueCamp z = two("if silent:lose 1;if not silent:set 0;");
        z.said(0, 0, 1, false, false);
        Check.due("none to lose", z.paysSilence(0), false);
        TongueCamp w = two("if silent and run=1:gain 1;");
        Check.due("run 0", w.paysSilence(0), false);
        w.night();
        Check.due("run 1, today", w.paysSilence(0), true);
        w.said(0, 0, 0, true, false);
        Check.due("run 0 by what it said", w.paysSilence(0), false);
    }

    /** "False, too, if there is none such." */
    private static void paysNobody() {
        TongueCamp x = two("gain 1;");
        for (int child : new int[] {LEAST, -2, -1, 2, 3, 24, MOST}) {
            Check.due("paysSilence(" + child + ")", x.paysSilence(child), false);
        }
        Check.due("the first", x.paysSilence(0), true);
        Check.due("the last", x.paysSilence(1), true);
        Refused.answers("paysSilence(0)", 1, Camps::rich, y -> y.paysSilence(0) ? 1 : 0);
        Refused.no("paysSilence(8)", Camps::rich, y -> y.paysSilence(8));
        Refused.no("paysSilence(-1)", Camps::rich, y -> y.paysSilence(-1));
    }

    // Promise 20: "-100 if there is none such, or for another what."

    private static void whatIsTold() {
        TongueCamp x = Check.camp(Check.row(5, 17, 1));
        int[] due = {5, 17, 1, -1, 0, 10, 0, 5, -1, 10, 0, 0, -1, 0};
        for (int what = 0; what < due.length; what++) {
            Check.due("tell(0, " + what + ") at first", x.tell(0, what), due[what]);
        }
        x.child(0, 8, false);
        int[] other = {0, 8, 0, -1, 0, 10, 0, 5, -1, 10, 0, 0, -1, 0};
        for (int what = 0; what < other.length; what++) {
            Check.due("tell(1, " + what + ") at first", x.tell(1, what), other[what]);
        }
        for (int what : new int[] {LEAST, -100, -2, -1, 14, 15, 100, MOST}) {
            Check.due("tell(0, " + what + ")", x.tell(0, what), -100);
        }
        Refused.answers("tell(0, 14)", -100, Camps::rich, y -> y.tell(0, 14));
        Refused.answers("tell(0, -1)", -100, Camps::rich, y -> y.tell(0, -1));
    }

    private static void whoIsTold() {
        TongueCamp x = two("");
        for (int what = 0; what <= 13; what++) {
            for (int child : new int[] {LEAST, -2, -1, 2, 3, 24, MOST}) {
                Check.due("tell(" + child + ", " + what + ")", x.tell(child, what), -100);
            }
        }
        Check.due("the first", x.tell(0, 1), 10);
        Check.due("the last", x.tell(1, 1), 12);
        Check.due("nobody", new TongueCamp().tell(0, 0), -100);
        Refused.answers("tell(8, 9)", -100, Camps::rich, y -> y.tell(8, 9));
    }

    /** "An object is used for at most 512 calls after it has been made": the last of them is answered as all are. */
    private static void the512thCall() {
        TongueCamp x = new TongueCamp();
        x.child(0, 10, false);
        x.feed(0x6761_696e, 0x2031_3b20, 0x2020_2020, 0x2020_2020, 0x2020_2020);
        x.game();
        for (int call = 4; call < 512; call++) {
            Check.due("call " + call, x.said(0, 0, 50, true, true), 7 + call);
        }
        Check.due("call 512: words today", x.tell(0, 11), 508 * 50);
    }
}
