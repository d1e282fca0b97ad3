/** Edges of promises 13 to 16, sentence by sentence: the tape, its text, the faults and their places. */
public final class EdgesTapeTest {
    private static final int BLANKS = 0x20202020;
    private static final String[] WORDS = {"if", "and", "not", "gain", "lose", "set", "stop", "own", "helper", "shy",
        "silent", "words", "hour", "day", "low", "age", "has", "run"};

    public static void main(String[] args) {
        bytesInOrder();
        bytesOfEachNumber();
        tapeOf500();
        refusedFeed();
        ends();
        refusedEnd();
        cutText();
        cutIsGone();
        takenIsEmpty();
        faultsAsked();
        latestGame();
        refusedGame();
        blanks();
        lettersAndDigits();
        longestWords();
        numbers();
        everyByte();
        everyWord();
        noText();
        placeOfTheEnd();
        lines16();
        tests4();
        faultOneFirst();
        firstOfSeveral();
        Check.finish("EdgesTapeTest");
    }

    private static int feedBlanks(TongueCamp x) {
        return x.feed(BLANKS, BLANKS, BLANKS, BLANKS, BLANKS);
    }

    private static String times(String text, int many) {
        return text.repeat(many);
    }

    /** A text that is taken, with so many lines. */
    private static void fits(String text, int lines) {
        TongueCamp x = new TongueCamp();
        String call = "'" + text + "'";
        Check.due("game of " + call, Check.game(x, text), lines);
        Check.due("fault of " + call, x.fault(0), 0);
        Check.due("no place of " + call, x.fault(1), -1);
        Check.due("lines of " + call, x.count(7), lines);
        Check.due("the tape behind " + call, x.end(1), -1);
    }

    private static void faulty(String text, int fault, int place) {
        TongueCamp x = new TongueCamp();
        String call = "'" + text + "'";
        Check.due("game of " + call, Check.game(x, text), -1);
        Check.due("fault of " + call, x.fault(0), fault);
        Check.due("place of " + call, x.fault(1), place);
        Check.due("no lines of " + call, x.count(7), 0);
        Check.due("the tape behind " + call, x.end(1), -1);
    }

    // Promise 13: "twenty bytes come behind it, of each number the highest first: how many it has."

    /** A wrong byte at each of the twenty places, all others blank, is found there. */
    private static void bytesInOrder() {
        for (int place = 0; place < 20; place++) {
            int[] n = {BLANKS, BLANKS, BLANKS, BLANKS, BLANKS};
            n[place / 4] ^= (' ' ^ '#') << 24 - place % 4 * 8;
            TongueCamp x = new TongueCamp();
            Check.due("feed with # at " + place, x.feed(n[0], n[1], n[2], n[3], n[4]), 20);
            Check.due("game with # at " + place, x.game(), -1);
            Check.due("fault with # at " + place, x.fault(0), 1);
            Check.due("place with # at " + place, x.fault(1), place);
        }
    }

    /** All bits of a number count, the highest one, too: a letter with it is none. */
    private static void bytesOfEachNumber() {
        TongueCamp x = new TongueCamp();
        x.feed(0x7374_6f70, 0x3b0a_2020, 0x6761_696e, 0x2031_3b20, 0x7365_7435);
        x.feed(0x3b0a_0a0a, BLANKS, BLANKS, BLANKS, BLANKS);
        Check.due("stop; gain 1; set5;", x.game(), 3);
        int[] high = {0x80, 0x8000, 0x800000, Integer.MIN_VALUE};
        for (int bit : high) {
            TongueCamp y = new TongueCamp();
            y.feed(0x7374_6f70 | bit, 0x3b20_2020, BLANKS, BLANKS, BLANKS);
            Check.due("stop with bit " + bit, y.game(), -1);
        }
        TongueCamp z = new TongueCamp();
        Check.due("all bits", z.feed(-1, -1, -1, -1, -1), 20);
        Check.due("all bits behind", z.feed(-1, Integer.MIN_VALUE, 0, 1, Integer.MAX_VALUE), 40);
        Check.due("no text", z.game(), -1);
        Check.due("at 0", z.fault(1), 0);
    }

    // "NONE, and nothing comes, if there would be more than 500."

    private static void tapeOf500() {
        for (int had = 478; had <= 500; had++) {
            TongueCamp x = tape(had);
            Check.due("feed behind " + had, feedBlanks(x), had <= 480 ? had + 20 : -1);
            int has = had <= 480 ? had + 20 : had;
            Check.due("one more than it has behind " + had, x.end(has + 1), -1);
            Check.due("as many as it has behind " + had, x.end(has), has);
        }
        TongueCamp y = new TongueCamp();
        for (int i = 1; i <= 25; i++) {
            Check.due("feed " + i, feedBlanks(y), 20 * i);
        }
        Check.due("the 26th", feedBlanks(y), -1);
        Check.due("500 blanks", y.game(), 0);
        Check.due("empty then", feedBlanks(y), 20);
    }

    /** A tape of so many bytes: a line, then blanks. */
    private static TongueCamp tape(int many) {
        TongueCamp x = Check.camp(Check.row(0, 10, 0), Check.row(1, 12, 1));
        Check.feed(x, "gain 7;");
        x.end(0);
        x.feed(0x6761_696e, 0x2037_3b20, BLANKS, BLANKS, BLANKS);
        for (int has = 20; has < many; has += 20) {
            if (has > 480) {
                x.end(480);
            }
            feedBlanks(x);
        }
        Check.due("a tape of " + many, x.end(many), many);
        return x;
    }

    private static void refusedFeed() {
        for (int had : new int[] {481, 482, 499, 500}) {
            Refused.none("feed behind " + had, () -> tape(had),
                x -> x.feed(0x7374_6f70, 0x3b23_2323, 0x2323_2323, 0x2323_2323, 0x2323_2323));
        }
    }

    // Promise 14: "The tape has its first n bytes alone: n. NONE if it has not so many, or n is below 0."

    private static void ends() {
        for (int had : new int[] {20, 21, 40, 499, 500}) {
            int[] none = {Integer.MIN_VALUE, -500, -2, -1, had + 1, had + 2, 501, 1000, Integer.MAX_VALUE};
            TongueCamp x = tape(had);
            for (int n : none) {
                Check.due("end(" + n + ") of " + had, x.end(n), -1);
            }
            Check.due("end of as many: " + had, x.end(had), had);
            Check.due("end of one less: " + (had - 1), x.end(had - 1), had - 1);
            Check.due("then it has not so many: " + had, x.end(had), -1);
            Check.due("end(1) of " + had, x.end(1), 1);
            Check.due("end(2) of 1", x.end(2), -1);
            Check.due("end(0) of 1", x.end(0), 0);
            Check.due("end(1) of 0", x.end(1), -1);
            Check.due("end(0) of 0", x.end(0), 0);
        }
        TongueCamp y = new TongueCamp();
        Check.due("end(-1) of 0", y.end(-1), -1);
        Check.due("end(0) of a new one", y.end(0), 0);
        Check.due("end(1) of a new one", y.end(1), -1);
    }

    private static void refusedEnd() {
        Refused.none("end(-1)", Camps::rich, x -> x.end(-1));
        Refused.none("end(11) of 10", Camps::rich, x -> x.end(11));
        Refused.none("end(501) of 500", () -> tape(500), x -> x.end(501));
        Refused.none("end(-1) of 500", () -> tape(500), x -> x.end(-1));
        Refused.none("end(1) of 0", TongueCamp::new, x -> x.end(1));
        Refused.answers("end of as many as it has", 10, Camps::rich, x -> x.end(10));
    }

    /** "its first n bytes alone": of "stop;stop;" for each n. */
    private static void cutText() {
        for (int n = 0; n <= 10; n++) {
            TongueCamp x = new TongueCamp();
            Check.feed(x, "stop;stop;");
            Check.due("end(" + n + ")", x.end(n), n);
            // A cut word is none, its place is its first byte; behind a whole word the end comes too early.
            int cut = n % 5;
            Check.due("game of " + n + " bytes", x.game(), cut == 0 ? n / 5 : -1);
            Check.due("place of " + n + " bytes", x.fault(1), cut == 0 ? -1 : cut == 4 ? n : n - cut);
        }
    }

    private static void cutIsGone() {
        TongueCamp x = new TongueCamp();
        Check.feed(x, "stop;gain 1;lose 1;");
        x.end(5);
        Check.due("blanks come behind", feedBlanks(x), 25);
        Check.due("one line", x.game(), 1);
        Check.feed(x, "stop;stop;stop;");
        x.end(0);
        Check.due("from 0 on", x.game(), 0);
        feedBlanks(x);
        Check.due("what was taken is gone", x.game(), 0);
        Check.feed(x, "stop;#");
        x.end(5);
        Check.feed(x, "stop;");
        Check.due("behind the cut", x.game(), 2);
    }

    // Promise 15: "The tape is taken (and is empty then), as THE GAME from now on: how many LINES. NONE: a FAULT."

    private static void takenIsEmpty() {
        TongueCamp x = Camps.children(1);
        Check.due("an empty tape", x.game(), 0);
        Check.due("a game", Check.game(x, "gain 1;gain 2;"), 2);
        Check.due("empty", x.end(1), -1);
        Check.due("the first bytes again", feedBlanks(x), 20);
        Check.due("from now on", x.said(0, 0, 1, false, false), 13);
        Check.due("no line is a game, too", x.game(), 0);
        Check.due("without any", x.said(0, 0, 1, false, false), 13);
        Check.due("a fault", Check.game(x, "gain"), -1);
        Check.due("empty by a fault, too", x.end(1), -1);
        Check.due("and no fault of it", x.game(), 0);
    }

    // Promise 16: "what 0: the FAULT, 0 without, 1: its place, NONE without. NONE for another what."

    private static void faultsAsked() {
        int[] none = {Integer.MIN_VALUE, -2, -1, 2, 3, Integer.MAX_VALUE};
        TongueCamp x = new TongueCamp();
        Check.due("without a game", x.fault(0), 0);
        Check.due("no place without a game", x.fault(1), -1);
        Check.game(x, "stop;#");
        for (int what : none) {
            Check.due("fault(" + what + ")", x.fault(what), -1);
            Check.due("fault(" + what + ") of a new one", new TongueCamp().fault(what), -1);
        }
        Check.due("fault(0)", x.fault(0), 1);
        Check.due("fault(1)", x.fault(1), 5);
        Check.game(x, "#");
        Check.due("place 0 is a place", x.fault(1), 0);
        Refused.none("fault(2)", Camps::rich, y -> y.fault(2));
        Refused.answers("fault(1)", 5, Camps::rich, y -> y.fault(1));
    }

    /** "Of the latest game()" */
    private static void latestGame() {
        TongueCamp x = new TongueCamp();
        Check.game(x, times("stop;", 17));
        Check.feed(x, "#");
        x.end(0);
        Check.due("feed and end are no game", x.fault(0) * 1000 + x.fault(1), 3080);
        Check.game(x, "stop;");
        Check.due("then without", x.fault(0), 0);
        Check.due("without a place", x.fault(1), -1);
        Check.game(x, "if");
        Check.due("then with one", x.fault(0) * 1000 + x.fault(1), 1002);
        x.game();
        Check.due("of the empty tape", x.fault(0), 0);
        Check.due("of the empty tape: no place", x.fault(1), -1);
    }

    /** A text with a fault is no game: what was the game stays it. */
    private static void refusedGame() {
        String[] texts = {"stop;#", times("stop;", 17), "if own and own and own and own and own:stop;"};
        for (String text : texts) {
            TongueCamp x = Camps.children(1);
            Check.game(x, "gain 1;gain 2;");
            Check.due("faulty '" + text + "'", Check.game(x, text), -1);
            Check.due("two lines still", x.count(7), 2);
            Check.due("by them", x.said(0, 0, 1, true, true), 13);
            Check.due("none to be taken", x.end(1), -1);
        }
    }

    // "blanks (10, 32) between"

    private static void blanks() {
        for (int b = 0; b < 256; b++) {
            String sign = "" + (char) b;
            boolean blank = b == 10 || b == 32;
            if (blank) {
                fits(sign, 0);
                fits(sign + "stop" + sign + ";" + sign, 1);
                fits("gain" + sign + "5;", 1);
            } else {
                faulty(sign, 1, 0);
                faulty(" stop;" + sign + " ", 1, 6);
            }
        }
        fits(times("\n", 500), 0);
        fits(times(" ", 493) + "gain 1;", 1);
        fits("gain 1;" + times("\n", 493), 1);
        fits("gain" + times(" ", 494) + "1;", 1);
        fits("if own and words<5:gain 1;if own and words<5:gain 1;", 2);
        fits("if\nown\nand\nwords\n<\n5\n:\ngain\n1\n;", 1);
        fits("if own and words<5:gain1;stop;", 2);
    }

    /** "rows of letters a .. z": the signs before a, behind z, before 0 and behind 9 end a row. */
    private static void lettersAndDigits() {
        faulty("stop`;", 1, 4);
        faulty("stop{;", 1, 4);
        faulty("`stop;", 1, 0);
        faulty("{stop;", 1, 0);
        faulty("stopa;", 1, 0);
        faulty("stopz;", 1, 0);
        faulty("astop;", 1, 0);
        faulty("zstop;", 1, 0);
        faulty("stop@;", 1, 4);
        faulty("stop[;", 1, 4);
        faulty("stopA;", 1, 4);
        faulty("gain 1/;", 1, 6);
        faulty("gain 1:;", 1, 6);
        faulty("gain /1;", 1, 5);
        faulty("gain :1;", 1, 5);
        fits("gain 09;set 90;", 2);
        faulty("gain 1a;", 1, 6);
        faulty("gain a1;", 1, 5);
        faulty("stop5;", 1, 4);
        faulty("5stop;", 1, 0);
    }

    /** "as long as they go": a word with a letter more or less, or two words in one row, are none. */
    private static void longestWords() {
        String[] before = {"", "if own ", "if ", "", "", "", "", "if ", "if ", "if ", "if ", "if ", "if ", "if ", "if ",
            "if ", "if ", "if "};
        for (int i = 0; i < WORDS.length; i++) {
            String word = WORDS[i];
            int place = before[i].length();
            faulty(before[i] + word + "s", 1, place);
            faulty(before[i] + "a" + word, 1, place);
            faulty(before[i] + word.substring(1), 1, place);
            faulty(before[i] + word.substring(0, word.length() - 1), 1, place);
            faulty(before[i] + word + word, 1, place);
            faulty(before[i] + word.substring(0, 1) + " " + word.substring(1), 1, place);
            for (int at = 0; at < word.length(); at++) {
                faulty(before[i] + word.substring(0, at) + "z" + word.substring(at + 1), 1, place);
            }
            faulty(before[i] + word, 1, place + word.length());
        }
        faulty("ifown:stop;", 1, 0);
        faulty("if notown:stop;", 1, 3);
        faulty("if own andshy:stop;", 1, 7);
        faulty("if helperhelper:stop;", 1, 3);
        faulty(times("stop", 125), 1, 0);
    }

    // "NUMBERS, 1 to 4 digits", "(a longer row of digits is no token)"

    private static void numbers() {
        String[] good = {"0", "9", "00", "10", "99", "000", "999", "0000", "0001", "1000", "9999"};
        for (String number : good) {
            fits("gain " + number + ";", 1);
            fits("if has<" + number + ":set" + number + ";", 1);
        }
        String[] wrong = {"00000", "00001", "10000", "12345", "99999", "000000", "123456789012345678901234567890"};
        for (String number : wrong) {
            faulty("gain " + number + ";", 1, 5);
            faulty("gain " + number, 1, 5);
            faulty("if has<" + number + ":stop;", 1, 7);
        }
        faulty("gain" + times("0", 496), 1, 4);
        faulty("gain 123 4;", 1, 9);
        faulty("gain 1 ;2", 1, 8);
        faulty("gain -1;", 1, 5);
    }

    /** Behind each beginning, each byte: those by which a text goes on come to the end, all others are the place. */
    private static void everyByte() {
        String[][] rows = {{"", ""}, {"stop;", ""}, {"if ", ""}, {"if not ", ""}, {"if own ", ":"}, {"if own and ", ""},
            {"if not shy ", ":"}, {"if words ", "<>="}, {"if not run ", "<>="}, {"if words < ", "0123456789"},
            {"if words = 5 ", ":"}, {"if own: ", ""}, {"gain ", "0123456789"}, {"lose ", "0123456789"},
            {"set ", "0123456789"}, {"stop ", ";"}, {"gain 5 ", ";"}};
        for (String[] row : rows) {
            for (int b = 0; b < 256; b++) {
                boolean goesOn = b == 10 || b == 32 || row[1].indexOf(b) >= 0;
                String text = row[0] + (char) b;
                boolean whole = goesOn && (row[1].equals(";") && b == ';' || row[0].isEmpty() || row[0].equals("stop;"));
                if (whole) {
                    fits(text, row[0].isEmpty() ? 0 : 1);
                } else {
                    faulty(text, 1, goesOn ? text.length() : row[0].length());
                }
            }
        }
    }

    /** Behind each beginning, each word. */
    private static void everyWord() {
        String verbs = " gain lose set stop ";
        String tests = " own helper shy silent words hour day low age has run ";
        String[][] rows = {{"", verbs + " if "}, {"stop;", verbs + " if "}, {"if ", tests + " not "}, {"if not ", tests},
            {"if own ", " and "}, {"if own and ", tests + " not "}, {"if low > 5 ", " and "}, {"if low ", ""},
            {"if low > ", ""}, {"if own: ", verbs}, {"gain ", ""}, {"stop ", ""}, {"gain 5 ", ""}, {"if own and shy:", verbs}};
        for (String[] row : rows) {
            for (String word : WORDS) {
                boolean goesOn = row[1].contains(" " + word + " ");
                faulty(row[0] + word, 1, goesOn ? row[0].length() + word.length() : row[0].length());
            }
        }
    }

    // "1 the first byte or token with which no text goes on"

    private static void noText() {
        faulty("stop;;", 1, 5);
        faulty(";", 1, 0);
        faulty("stop stop;", 1, 5);
        faulty("gain 5 5;", 1, 7);
        faulty("gain gain 5;", 1, 5);
        faulty("if own and shy stop;", 1, 15);
        faulty("if own, shy:stop;", 1, 6);
        faulty("if own:if shy:stop;", 1, 7);
        faulty("if own and:stop;", 1, 10);
        faulty("if and own:stop;", 1, 3);
        faulty("if not:stop;", 1, 6);
        faulty("if not not own:stop;", 1, 7);
        faulty("if own not:stop;", 1, 7);
        faulty("if own = 1:stop;", 1, 7);
        faulty("if words:stop;", 1, 8);
        faulty("if words << 5:stop;", 1, 10);
        faulty("if 5 < words:stop;", 1, 3);
        faulty("if words < has:stop;", 1, 11);
        faulty("own:stop;", 1, 0);
        faulty("# stop #;", 1, 0);
        faulty("stop;gain 5;if own:lose #;set", 1, 24);
        fits("if not own and not words<1 and not shy and not run>3:lose 4;stop;gain 0;", 3);
    }

    /** "with places (a token's first byte; the end's)" */
    private static void placeOfTheEnd() {
        faulty("stop", 1, 4);
        faulty("stop ", 1, 5);
        faulty("stop \n ", 1, 7);
        faulty("stop;if", 1, 7);
        faulty("gain 1" + times(" ", 494), 1, 500);
        faulty(times(" ", 496) + "stop", 1, 500);
        faulty("stop;" + times(" ", 494) + "#", 1, 499);
        faulty("stop;" + times(" ", 493) + "# ", 1, 498);
        faulty(times("\n", 499) + ";", 1, 499);
        fits(times(" ", 495) + "stop;", 1);
        fits(times("stop; \n\n\n ", 16) + times(" ", 339), 16);
    }

    // "3 one too many, at its first token: a 17th LINE, a 5th TEST of a LINE"

    private static void lines16() {
        for (int many = 0; many <= 16; many++) {
            fits(times("stop;", many), many);
        }
        for (int many = 17; many <= 19; many++) {
            faulty(times("stop;", many), 3, 80);
        }
        faulty(times("stop;", 100), 3, 80);
        faulty(times("gain 1;", 71), 3, 112);
        faulty(times("stop;", 16) + "if own:stop;", 3, 80);
        faulty(times("stop;", 16) + " \n if own:stop;", 3, 83);
        faulty(times("stop;", 16) + "\nlose 4;", 3, 81);
        fits(times("stop;", 16) + times(" ", 420), 16);
        fits(times("if own and own and own and own:stop;", 13), 13);
    }

    private static void tests4() {
        fits("if own:stop;", 1);
        fits("if own and own:stop;", 1);
        fits("if own and own and own:stop;", 1);
        fits("if own and own and own and own:stop;", 1);
        faulty("if own and own and own and own and own:stop;", 3, 35);
        faulty("if own and own and own and own and own and own:stop;", 3, 35);
        faulty("if own and own and own and own and not shy:stop;", 3, 35);
        faulty("if own and own and own and own and  \n run<3:gain 1;", 3, 38);
        faulty("if own and own and own and own and not run = 3:gain 1;", 3, 35);
        fits("if not own and not own and not own and not run=3:stop;", 1);
        faulty("if run=1 and run=1 and run=1 and run=1 and run=1:stop;", 3, 43);
        fits("if own and own and own and own:stop;if own and own and own and own:stop;", 2);
        faulty("stop;if own and own and own and own and own:stop;stop;", 3, 40);
    }

    /** "If there is none: 3": a fault 1 behind one too many is the fault. */
    private static void faultOneFirst() {
        faulty(times("stop;", 17) + "#", 1, 85);
        faulty(times("stop;", 16) + "#", 1, 80);
        faulty(times("stop;", 16) + "stop", 1, 84);
        faulty(times("stop;", 16) + "if", 1, 82);
        faulty(times("stop;", 16) + "if stop;", 1, 83);
        faulty(times("stop;", 40) + "gain;", 1, 204);
        faulty("if own and own and own and own and own", 1, 38);
        faulty("if own and own and own and own and", 1, 34);
        faulty("if own and own and own and own and:stop;", 1, 34);
        faulty("if own and own and own and own and not:stop;", 1, 38);
        faulty("if own and own and own and own and run:stop;", 1, 38);
        faulty("if own and own and own and own and own:stop;stop", 1, 48);
    }

    private static void firstOfSeveral() {
        String five = "if own and own and own and own and own:stop;";
        faulty(five + times("stop;", 16), 3, 35);
        faulty(times("stop;", 15) + five + "stop;", 3, 75 + 35);
        faulty(times("stop;", 16) + five, 3, 80);
        faulty(five + five, 3, 35);
        faulty("if own and own and own and own and own and own:stop;" + five, 3, 35);
    }
}
