/** Promises 13 to 16: the tape, the game's text and its faults. */
public final class TapeTest {
    public static void main(String[] args) {
        feeding();
        taking();
        bytes();
        tokens();
        grammar();
        tooMany();
        keeping();
        Check.finish("TapeTest");
    }

    private static void feeding() {
        TongueCamp x = new TongueCamp();
        for (int i = 1; i <= 25; i++) {
            Check.due("feed " + i, x.feed(0, 0, 0, 0, 0), 20 * i);
        }
        Check.due("feed 26", x.feed(0, 0, 0, 0, 0), -1);
        Check.due("end 501", x.end(501), -1);
        Check.due("end -1", x.end(-1), -1);
        Check.due("end 500", x.end(500), 500);
        Check.due("end 481", x.end(481), 481);
        Check.due("feed over 500", x.feed(0, 0, 0, 0, 0), -1);
        Check.due("nothing came", x.end(482), -1);
        Check.due("end 480", x.end(480), 480);
        Check.due("feed to 500", x.feed(0, 0, 0, 0, 0), 500);
        Check.due("end 0", x.end(0), 0);
        Check.due("end 1", x.end(1), -1);
        Check.due("first feed again", x.feed(0, 0, 0, 0, 0), 20);
    }

    private static void taking() {
        TongueCamp x = new TongueCamp();
        Check.due("empty text", x.game(), 0);
        Check.due("blanks", Check.game(x, " \n  \n"), 0);
        Check.due("no fault", x.fault(0), 0);
        // "stop" is 73 74 6f 70, the highest byte first.
        x.feed(0x73746f70, 0x20203b0a, 0x73746f70, 0x3b207374, 0x6f703b20);
        Check.due("three lines", x.game(), 3);
        Check.due("count 7", x.count(7), 3);
        Check.due("the tape is empty", x.end(1), -1);
        Check.due("empty again", x.game(), 0);
        Check.due("no line", x.count(7), 0);
        Check.due("fault -1", x.fault(-1), -1);
        Check.due("fault 2", x.fault(2), -1);
    }

    private static void fits(String text, int lines) {
        TongueCamp x = new TongueCamp();
        Check.due("game '" + text + "'", Check.game(x, text), lines);
        Check.due("fault of '" + text + "'", x.fault(0), 0);
        Check.due("no place in '" + text + "'", x.fault(1), -1);
        Check.due("lines of '" + text + "'", x.count(7), lines);
    }

    private static void faulty(String text, int fault, int place) {
        TongueCamp x = new TongueCamp();
        Check.due("game '" + text + "'", Check.game(x, text), -1);
        Check.due("fault of '" + text + "'", x.fault(0), fault);
        Check.due("place in '" + text + "'", x.fault(1), place);
        Check.due("tape behind '" + text + "'", x.end(1), -1);
        Check.due("lines of '" + text + "'", x.count(7), 0);
    }

    /** Every byte behind a whole line: blanks and the first bytes of tokens that fit alone go on. */
    private static void bytes() {
        for (int b = 0; b < 256; b++) {
            if (b == 10 || b == 32) {
                fits("stop;" + (char) b, 1);
            } else {
                faulty("stop;" + (char) b, 1, 5);
            }
        }
        faulty("stop\t;", 1, 4);
        faulty("stop\r;", 1, 4);
        faulty("Stop;", 1, 0);
        faulty("stoP;", 1, 0);
        faulty("gain \u00ff5;", 1, 5);
        faulty("stop;;", 1, 5);
    }

    private static void tokens() {
        fits("gain 0;", 1);
        fits("gain0000;", 1);
        fits("gain9999;", 1);
        faulty("gain 00001;", 1, 5);
        faulty("gain 12345;", 1, 5);
        faulty("gain 1234 5;", 1, 10);
        fits("\n\ngain\n7\n;\n", 1);
        faulty("gains 5;", 1, 0);
        faulty("gai n 5;", 1, 0);
        faulty("stopstop;", 1, 0);
        faulty("stopz;", 1, 0);
        faulty("astop;", 1, 0);
        faulty("xtop;", 1, 0);
        faulty("stox;", 1, 0);
        faulty("{", 1, 0);
        faulty("`", 1, 0);
        faulty("helpers;", 1, 0);
        faulty("i", 1, 0);
        faulty("ifown:stop;", 1, 0);
        fits("if own:stop;if helper:stop;", 2);
        fits("if words<5and hour>3and day=0:set12;", 1);
        faulty("if words<5 & own:stop;", 1, 11);
        faulty("if helperx:stop;", 1, 3);
        faulty("if wordsx<3:stop;", 1, 3);
        faulty("12345", 1, 0);
        faulty("gain - 5;", 1, 5);
    }

    private static void grammar() {
        String[] plain = {"own", "helper", "shy", "silent"};
        for (String test : plain) {
            fits("if " + test + ":stop;", 1);
            fits("if not " + test + ":lose 3;", 1);
            faulty("if " + test + "=1:stop;", 1, 3 + test.length());
        }
        String[] asked = {"words", "hour", "day", "low", "age", "has", "run"};
        String[] signs = {"<", ">", "="};
        for (String test : asked) {
            for (String sign : signs) {
                fits("if " + test + sign + "10:gain 1;", 1);
                fits("if not " + test + " " + sign + " 10 and own:gain 1;", 1);
            }
            faulty("if " + test + ":stop;", 1, 3 + test.length());
            faulty("if " + test + "<:stop;", 1, 4 + test.length());
            faulty("if " + test + "<=3:stop;", 1, 4 + test.length());
            faulty("if " + test + "<own:stop;", 1, 4 + test.length());
        }
        faulty("gain", 1, 4);
        faulty("gain  ", 1, 6);
        faulty("gain 5", 1, 6);
        faulty("gain;", 1, 4);
        faulty("stop 5;", 1, 5);
        faulty("stop", 1, 4);
        faulty("5;", 1, 0);
        faulty("own;", 1, 0);
        faulty("give 1;", 1, 0);
        faulty("if", 1, 2);
        faulty("if :stop;", 1, 3);
        faulty("if stop;", 1, 3);
        faulty("if own stop;", 1, 7);
        faulty("if own", 1, 6);
        faulty("if own:", 1, 7);
        faulty("if own:;", 1, 7);
        faulty("if own and:stop;", 1, 10);
        faulty("if own and and own:stop;", 1, 11);
        faulty("if own and not:stop;", 1, 14);
        faulty("if not not own:stop;", 1, 7);
        faulty("if own:if own:stop;", 1, 7);
        faulty("if own own:stop;", 1, 7);
        faulty("if own:gain 5 and own;", 1, 14);
        faulty("not own:stop;", 1, 0);
        faulty("and", 1, 0);
        faulty("stop;gain 5;lose", 1, 16);
        fits("gain 1;lose 2;set 3;stop;", 4);
    }

    private static String times(String text, int many) {
        StringBuilder all = new StringBuilder();
        for (int i = 0; i < many; i++) {
            all.append(text);
        }
        return all.toString();
    }

    private static void tooMany() {
        fits(times("stop;", 16), 16);
        faulty(times("stop;", 17), 3, 80);
        faulty(times("stop;", 16) + "  if own:stop;stop;", 3, 82);
        faulty(times("stop;", 18), 3, 80);
        faulty(times("stop;", 17) + "stop", 1, 89);
        faulty(times("stop;", 16) + "own", 1, 80);
        faulty(times("stop;", 100), 3, 80);
        fits(times("gain 1;", 16) + times(" ", 388), 16);
        fits("if own and own and own and own:stop;", 1);
        faulty("if own and own and own and own and own:stop;", 3, 35);
        faulty("if own and own and own and own and not own:stop;", 3, 35);
        faulty("if own and own and own and own and own and own:stop;", 3, 35);
        faulty("if own and own and own and own and own stop;", 1, 39);
        faulty("if own and own and own and own and", 1, 34);
        faulty("if own and own and own and own and own:stop;" + times("stop;", 16), 3, 35);
        faulty(times("stop;", 16) + "if own and own and own and own and own:stop;", 3, 80);
        faulty(times("stop;", 15) + "if own and own and own and own and day>1:stop;stop;", 3, 75 + 35);
        fits(times("if own and own and own and shy:", 1) + "stop;if own and own and own and shy:gain 1;", 2);
    }

    /** A game with a fault is none: the tape is empty, what was the game stays it. */
    private static void keeping() {
        TongueCamp x = Check.camp(Check.row(0, 10, 0));
        Check.due("game", Check.game(x, "gain 5;gain 1;"), 2);
        Check.due("faulty", Check.game(x, "gain 7;stop"), -1);
        Check.due("fault", x.fault(0), 1);
        Check.due("place", x.fault(1), 11);
        Check.due("lines", x.count(7), 2);
        Check.due("said", x.said(0, 0, 1, false, false), 16);
        Check.due("too many", Check.game(x, times("lose 1;", 17)), -1);
        Check.due("fault 3", x.fault(0), 3);
        Check.due("said again", x.said(0, 0, 1, false, false), 22);
        Check.due("empty", x.game(), 0);
        Check.due("no fault then", x.fault(0), 0);
        Check.due("no place then", x.fault(1), -1);
        Check.due("nothing by it", x.said(0, 0, 1, false, false), 22);
        Check.due("text", Check.game(x, "stop"), -1);
        Check.feed(x, "stop;");
        Check.due("fault of the latest", x.fault(1), 4);
    }
}
