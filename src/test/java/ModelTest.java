/** Long runs of calls, drawn by a fixed row of numbers, held against the model call by call. */
public final class ModelTest {
    private static final int CALLS = 512;
    private static final String[] WORDS = {"if", "and", "not", "gain", "lose", "set", "stop", "own", "helper", "shy",
        "silent", "words", "hour", "day", "low", "age", "has", "run", ":", ";", "<", ">", "=", "1", "23", "0007",
        "12345", "", "#", "\n", "iff", "x"};

    private long seed;
    private TongueCamp x;
    private Model m;
    private int left;
    private String run;

    public static void main(String[] args) {
        int runs = args.length > 0 ? Integer.parseInt(args[0]) : 400;
        for (int i = 0; i < runs; i++) {
            new ModelTest().go(i);
        }
        Check.finish("ModelTest");
    }

    private int draw(int below) {
        seed = seed * 6364136223846793005L + 1442695040888963407L;
        return (int) ((seed >>> 33) % below);
    }

    /** Mostly within the bounds, at times a little outside, seldom far from them. */
    private int near(int least, int most) {
        int how = draw(40);
        if (how == 0) {
            return least - 1 - draw(2);
        }
        if (how == 1) {
            return most + 1 + draw(2);
        }
        if (how == 2) {
            int[] far = {Integer.MIN_VALUE, Integer.MAX_VALUE, -100, 1000, 65536, 1 << 31 | 5};
            return far[draw(far.length)];
        }
        return least + draw(Math.max(1, most - least + 1));
    }

    private boolean coin() {
        return draw(2) == 0;
    }

    private void due(String call, long got, long want) {
        left--;
        Check.due("run " + run + ", " + left + " left: " + call, got, want);
    }

    private void due(String call, boolean got, boolean want) {
        due(call, got ? 1 : 0, want ? 1 : 0);
    }

    private void go(int number) {
        seed = number * 7919L + 17;
        run = "" + number;
        x = new TongueCamp();
        m = new Model();
        left = CALLS;
        int kids = new int[] {24, 7, 12, 5, 16, 3}[number % 6];
        for (int i = 0; i < kids; i++) {
            child();
        }
        int cabins = draw(7);
        for (int i = 0; i < cabins; i++) {
            cabin();
        }
        if (number % 4 == 2) {
            crowd();
        }
        while (left > 40) {
            any(number % 6 == 1 || number % 6 == 3 || number % 6 == 5);
        }
        for (int what = 0; left > 0; what++) {
            int child = draw(Math.max(1, m.kids.size()));
            due("tell(" + child + ", " + what % 14 + ")", x.tell(child, what % 14), m.tell(child, what % 14));
        }
    }

    private void child() {
        int tongue = near(0, 5);
        int age = near(8, 17);
        boolean shy = draw(3) == 0;
        due("child(" + tongue + ", " + age + ", " + shy + ")", x.child(tongue, age, shy), m.child(tongue, age, shy));
    }

    private void cabin() {
        int beds = near(1, 8);
        due("cabin(" + beds + ")", x.cabin(beds), m.cabin(beds));
    }

    /** All that find a bed lie somewhere, many are barred, and then they are bettered. */
    private void crowd() {
        int many = m.kids.size();
        for (int i = 0; i < many && m.beds.size() > 0; i++) {
            int b = draw(many);
            due("bar(" + i + ", " + b + ")", x.bar(i, b), m.bar(i, b));
            int c = draw(m.beds.size());
            due("lie(" + i + ", " + c + ")", x.lie(i, c), m.lie(i, c));
        }
        due("step()", x.step(), m.step());
        due("better()", x.better(), m.better());
        for (int i = 0; i < many; i++) {
            due("tell(" + i + ", 3)", x.tell(i, 3), m.tell(i, 3));
        }
        due("cost(-1)", x.cost(-1), m.cost(-1));
    }

    private int kid() {
        return near(0, m.kids.size() - 1);
    }

    private void any(boolean few) {
        int what = draw(100);
        if (what < 30) {
            living(what, few);
        } else if (what < 62) {
            playing(what);
        } else if (what < 82) {
            planning(what);
        } else {
            telling(what);
        }
    }

    private void living(int what, boolean few) {
        int a = kid();
        int b = kid();
        if (what < 1 && !few) {
            child();
        } else if (what < 2) {
            cabin();
        } else if (what < 7) {
            due("bar(" + a + ", " + b + ")", x.bar(a, b), m.bar(a, b));
        } else if (what < 17) {
            int c = near(-1, m.beds.size() - 1);
            due("lie(" + a + ", " + c + ")", x.lie(a, c), m.lie(a, c));
        } else if (what < 18) {
            due("house()", x.house(), m.house());
        } else if (what < 20) {
            due("step()", x.step(), m.step());
        } else if (what < 21 && coin()) {
            due("better()", x.better(), m.better());
        } else if (what < 22 && draw(4) == 0) {
            due("least()", x.least(), m.least());
        } else if (what < 24) {
            int c = near(-1, m.beds.size() - 1);
            due("cost(" + c + ")", x.cost(c), m.cost(c));
        } else if (what < 29) {
            int d = near(1, 10);
            boolean p = coin();
            due("task(" + a + ", " + d + ", " + p + ")", x.task(a, d, p), m.task(a, d, p));
        } else {
            int g = near(1, 6);
            int least = near(1, 4);
            int most = near(least, 9);
            due("groups(" + g + ", " + least + ", " + most + ")", x.groups(g, least, most), m.groups(g, least, most));
        }
    }

    private void playing(int what) {
        int a = kid();
        if (what < 35) {
            text();
        } else if (what < 37) {
            int n = near(0, 40);
            due("end(" + n + ")", x.end(n), m.end(n));
        } else if (what < 40) {
            due("fault(0)", x.fault(0), m.fault(0));
            int w = near(0, 1);
            due("fault(" + w + ")", x.fault(w), m.fault(w));
        } else if (what < 54) {
            int h = near(m.hour, Math.min(23, m.hour + 3));
            int w = near(0, 50);
            boolean own = coin();
            boolean helper = coin();
            due("said(" + a + ", " + h + ", " + w + ", " + own + ", " + helper + ")", x.said(a, h, w, own, helper),
                m.said(a, h, w, own, helper));
        } else if (what < 58) {
            due("night()", x.night(), m.night());
        } else {
            due("paysSilence(" + a + ")", x.paysSilence(a), m.paysSilence(a));
        }
    }

    private String test() {
        String not = draw(4) == 0 ? "not " : "";
        String plain = WORDS[7 + draw(11)];
        boolean number = plain.matches("words|hour|day|low|age|has|run");
        return not + plain + (number ? WORDS[20 + draw(3)] + draw(plain.equals("words") ? 51 : 14) : "");
    }

    private String line() {
        StringBuilder line = new StringBuilder();
        int tests = draw(5);
        for (int i = 0; i < tests; i++) {
            line.append(i == 0 ? "if " : " and ").append(test());
        }
        line.append(tests > 0 ? ":" : "").append(WORDS[3 + draw(4)]);
        if (line.charAt(line.length() - 1) != 'p') {
            line.append(draw(9) == 0 ? 9000 : draw(20));
        }
        return line.append(";").toString();
    }

    private void text() {
        StringBuilder text = new StringBuilder();
        int how = draw(10);
        int lines = how == 9 ? 14 + draw(5) : draw(7);
        for (int i = 0; i < lines; i++) {
            text.append(how == 9 ? "stop;" : line());
        }
        if (how == 8) {
            text.append("if own and own and shy and own and own:stop;");
        }
        if (how >= 6 && text.length() > 0) {
            int at = draw(text.length());
            text.replace(at, Math.min(text.length(), at + draw(2)), WORDS[draw(WORDS.length)]);
        }
        for (int from = 0; from < text.length() && left > 44; from += 20) {
            int[] n = new int[5];
            for (int i = 0; i < 20; i++) {
                n[i / 4] = n[i / 4] << 8 | (from + i < text.length() ? text.charAt(from + i) : 32);
            }
            due("feed", x.feed(n[0], n[1], n[2], n[3], n[4]), m.feed(n));
        }
        if (draw(6) > 0 && left > 44) {
            due("game() of '" + m.tape + "'", x.game(), m.game());
            due("fault(0)", x.fault(0), m.fault(0));
            due("fault(1)", x.fault(1), m.fault(1));
        }
    }

    private void planning(int what) {
        int a = kid();
        if (what < 64) {
            int nights = draw(3) == 0 ? near(0, 16383) : draw(16384) & draw(16384) & draw(16384);
            due("helper(" + nights + ")", x.helper(nights), m.helper(nights));
        } else if (what < 66) {
            int n = near(1, 14);
            int w = near(1, 3);
            int k = near(0, 2);
            due("watch(" + n + ", " + w + ", " + k + ")", x.watch(n, w, k), m.watch(n, w, k));
        } else if (what < 69) {
            int n = near(0, 13);
            due("watcher(" + n + ")", x.watcher(n), m.watcher(n));
        } else if (what < 71) {
            int t = near(2, 12);
            int s = near(2, 8);
            int r = near(0, 19);
            due("table(" + t + ", " + s + ", " + a + ", " + r + ")", x.table(t, s, a, r), m.table(t, s, a, r));
            int q = near(0, 2);
            due("met(" + t + ", " + s + ", " + (r + 1) + ", " + q + ")", x.met(t, s, r + 1, q), m.met(t, s, r + 1, q));
        } else if (what < 72) {
            due("host()", x.host(), m.host());
        } else if (what < 77) {
            int h = near(0, m.hosts - 1);
            int l = near(-1, 9);
            due("like(" + h + ", " + a + ", " + l + ")", x.like(h, a, l), m.like(h, a, l));
        } else if (what < 78) {
            due("give()", x.give(), m.give());
        } else {
            int before = near(0, 100);
            int after = near(0, 100);
            int way = near(0, 1);
            due("mark(" + a + ", " + before + ", " + after + ", " + way + ")", x.mark(a, before, after, way),
                m.mark(a, before, after, way));
        }
    }

    private void telling(int what) {
        if (what < 93) {
            int a = kid();
            int w = near(0, 13);
            due("tell(" + a + ", " + w + ")", x.tell(a, w), m.tell(a, w));
        } else if (what < 94) {
            int w = near(0, 3);
            due("held(" + w + ")", x.held(w), m.held(w));
        } else if (what < 98) {
            int w = near(0, 11);
            due("count(" + w + ")", x.count(w), m.count(w));
        } else {
            int k = near(0, 2);
            if (draw(3) > 0) {
                due("image(" + k + ")", x.image(k), m.image(k));
            } else {
                due("again(" + k + ")", x.again(k), m.again(k));
            }
        }
    }
}
