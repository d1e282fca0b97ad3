import java.util.ArrayList;
import java.util.HashMap;
import java.util.HashSet;
import java.util.List;
import java.util.Map;
import java.util.Set;

/** The document's words done as plainly as can be, by trying all ways: what the class is held against. */
final class Model {
    List<int[]> kids = new ArrayList<>();
    static final int TONGUE = 0, AGE = 1, SHY = 2, CABIN = 3, LOW = 4, HIGH = 5, DOUBTS = 6, GROUP = 7, TOKENS = 8,
        OWN_DAY = 9, WORDS = 10, SPOKE = 11, HOST = 12, MARKED = 13, BEFORE = 14, AFTER = 15, WAY = 16;
    Set<Integer> bars = new HashSet<>();
    List<Integer> beds = new ArrayList<>();
    List<Integer> helpers = new ArrayList<>();
    int hosts = 0;
    Map<Integer, Integer> liking = new HashMap<>();
    int day = 0, hour = 0;
    List<Line> game = new ArrayList<>();
    StringBuilder tape = new StringBuilder();
    int fault = 0, place = -1;
    List<Integer> watch = new ArrayList<>();
    Map<Integer, Model> images = new HashMap<>();

    static final class Line {
        List<String[]> tests = new ArrayList<>();
        String verb;
        int amount;
    }

    Model copy() {
        Model m = new Model();
        m.take(this);
        return m;
    }

    void take(Model o) {
        kids = new ArrayList<>();
        for (int[] k : o.kids) {
            kids.add(k.clone());
        }
        bars = new HashSet<>(o.bars);
        beds = new ArrayList<>(o.beds);
        helpers = new ArrayList<>(o.helpers);
        hosts = o.hosts;
        liking = new HashMap<>(o.liking);
        day = o.day;
        hour = o.hour;
        game = o.game;
        tape = new StringBuilder(o.tape);
        fault = o.fault;
        place = o.place;
        watch = new ArrayList<>(o.watch);
    }

    boolean kid(int c) {
        return c >= 0 && c < kids.size();
    }

    int child(int tongue, int age, boolean shy) {
        if (kids.size() == 24 || tongue < 0 || tongue > 5 || age < 8 || age > 17) {
            return -1;
        }
        kids.add(new int[] {tongue, age, shy ? 1 : 0, -1, 0, 10, 0, -1, 10, 0, 0, 0, -1, 0, 0, 0, 0});
        return kids.size() - 1;
    }

    boolean bar(int a, int b) {
        if (!kid(a) || !kid(b) || a == b || bars.size() == 30) {
            return false;
        }
        return bars.add(Math.min(a, b) * 100 + Math.max(a, b));
    }

    int cabin(int n) {
        if (beds.size() == 6 || n < 1 || n > 8) {
            return -1;
        }
        beds.add(n);
        return beds.size() - 1;
    }

    int lying(int cabin) {
        int n = 0;
        for (int[] k : kids) {
            n += k[CABIN] == cabin ? 1 : 0;
        }
        return n;
    }

    boolean lie(int child, int cabin) {
        if (!kid(child) || cabin < -1 || cabin >= beds.size() || kids.get(child)[CABIN] == cabin) {
            return false;
        }
        if (cabin >= 0 && lying(cabin) == beds.get(cabin)) {
            return false;
        }
        kids.get(child)[CABIN] = cabin;
        return true;
    }

    int cost(int cabin) {
        if (cabin < -1 || cabin >= beds.size()) {
            return -1;
        }
        int cost = 0;
        for (int c = 0; c < beds.size(); c++) {
            if (cabin != -1 && cabin != c) {
                continue;
            }
            int shy = 0;
            for (int a = 0; a < kids.size(); a++) {
                if (kids.get(a)[CABIN] != c) {
                    continue;
                }
                shy += kids.get(a)[SHY];
                for (int b = 0; b < a; b++) {
                    if (kids.get(b)[CABIN] == c) {
                        cost += kids.get(a)[TONGUE] == kids.get(b)[TONGUE] ? 30 : 0;
                        cost += bars.contains(b * 100 + a) ? 300 : 0;
                        int apart = Math.abs(kids.get(a)[AGE] - kids.get(b)[AGE]);
                        cost += apart > 2 ? 5 * (apart - 2) : 0;
                    }
                }
            }
            cost += shy == 1 ? 12 : 0;
        }
        return cost;
    }

    int allBeds() {
        int n = 0;
        for (int b : beds) {
            n += b;
        }
        return n;
    }

    int house() {
        if (allBeds() < kids.size()) {
            return -1;
        }
        for (int[] k : kids) {
            k[CABIN] = -1;
        }
        for (int[] k : kids) {
            int best = -1;
            int least = Integer.MAX_VALUE;
            for (int c = 0; c < beds.size(); c++) {
                if (lying(c) < beds.get(c)) {
                    k[CABIN] = c;
                    int cost = cost(-1);
                    k[CABIN] = -1;
                    if (cost < least) {
                        least = cost;
                        best = c;
                    }
                }
            }
            k[CABIN] = best;
        }
        return cost(-1);
    }

    int step() {
        int was = cost(-1);
        int least = was;
        int[] how = null;
        for (int a = 0; a < kids.size(); a++) {
            for (int b = a + 1; b < kids.size(); b++) {
                int[] x = kids.get(a);
                int[] y = kids.get(b);
                int from = x[CABIN];
                int to = y[CABIN];
                if (from < 0 || to < 0 || from == to) {
                    continue;
                }
                x[CABIN] = to;
                y[CABIN] = from;
                if (cost(-1) < least) {
                    least = cost(-1);
                    how = new int[] {a, to, b, from};
                }
                x[CABIN] = from;
                y[CABIN] = to;
            }
        }
        for (int a = 0; a < kids.size(); a++) {
            int[] x = kids.get(a);
            int from = x[CABIN];
            for (int to = 0; to < beds.size() && from >= 0; to++) {
                if (to == from || lying(to) == beds.get(to)) {
                    continue;
                }
                x[CABIN] = to;
                if (cost(-1) < least) {
                    least = cost(-1);
                    how = new int[] {a, to, a, to};
                }
                x[CABIN] = from;
            }
        }
        if (how != null) {
            kids.get(how[2])[CABIN] = how[3];
            kids.get(how[0])[CABIN] = how[1];
        }
        return was - least;
    }

    int better() {
        int n = 0;
        while (step() > 0) {
            n++;
        }
        return n;
    }

    int least() {
        if (kids.size() > 7 || allBeds() < kids.size()) {
            return -1;
        }
        Model m = copy();
        for (int[] k : m.kids) {
            k[CABIN] = -1;
        }
        return m.leastFrom(0);
    }

    private int leastFrom(int child) {
        if (child == kids.size()) {
            return cost(-1);
        }
        int least = Integer.MAX_VALUE;
        for (int c = 0; c < beds.size(); c++) {
            if (lying(c) < beds.get(c)) {
                kids.get(child)[CABIN] = c;
                least = Math.min(least, leastFrom(child + 1));
                kids.get(child)[CABIN] = -1;
            }
        }
        return least;
    }

    int task(int child, int d, boolean passed) {
        if (!kid(child) || d < 1 || d > 10) {
            return -1;
        }
        int[] k = kids.get(child);
        int low = passed ? Math.max(k[LOW], d) : k[LOW];
        int high = passed ? k[HIGH] : Math.min(k[HIGH], d - 1);
        if (low > high) {
            low = d - 1;
            high = d;
            k[DOUBTS]++;
        }
        k[LOW] = low;
        k[HIGH] = high;
        return high - low;
    }

    private List<Integer> row;
    private int bestWorth;
    private List<Integer> bestCut;

    int groups(int g, int x, int y) {
        if (g < 1 || g > 6 || x < 1 || x > y) {
            return -1;
        }
        row = new ArrayList<>();
        for (int sum = 0; sum <= 20; sum++) {
            for (int i = 0; i < kids.size(); i++) {
                if (kids.get(i)[LOW] + kids.get(i)[HIGH] == sum) {
                    row.add(i);
                }
            }
        }
        bestCut = null;
        bestWorth = Integer.MAX_VALUE;
        cut(new ArrayList<>(), 0, g, x, y);
        if (bestCut == null) {
            return -1;
        }
        int at = 0;
        for (int group = 0; group < g; group++) {
            for (int i = 0; i < bestCut.get(group); i++) {
                kids.get(row.get(at++))[GROUP] = group;
            }
        }
        return bestWorth;
    }

    private void cut(List<Integer> sizes, int at, int g, int x, int y) {
        if (sizes.size() == g) {
            if (at == kids.size() && worth(sizes) < bestWorth) {
                bestWorth = worth(sizes);
                bestCut = new ArrayList<>(sizes);
            }
            return;
        }
        for (int size = x; size <= y && at + size <= kids.size(); size++) {
            sizes.add(size);
            cut(sizes, at + size, g, x, y);
            sizes.remove(sizes.size() - 1);
        }
    }

    private int worth(List<Integer> sizes) {
        int worth = 0;
        int at = 0;
        for (int group = 0; group < sizes.size(); group++) {
            int low = 99;
            int high = -99;
            for (int i = 0; i < sizes.get(group); i++) {
                int[] k = kids.get(row.get(at++));
                low = Math.min(low, k[LOW]);
                high = Math.max(high, k[HIGH]);
                worth += k[GROUP] != -1 && k[GROUP] != group ? 1 : 0;
            }
            worth += 10 * (high - low);
        }
        return worth;
    }

    int feed(int... numbers) {
        if (tape.length() + 20 > 500) {
            return -1;
        }
        for (int n : numbers) {
            for (int shift = 24; shift >= 0; shift -= 8) {
                tape.append((char) (n >>> shift & 255));
            }
        }
        return tape.length();
    }

    int end(int n) {
        if (n < 0 || n > tape.length()) {
            return -1;
        }
        tape.setLength(n);
        return n;
    }

    private List<String> tokens;
    private List<Integer> places;
    private int at;
    private int excess;

    /** A fault 1, told by its token. */
    private static final class Broken extends Exception {
        private static final long serialVersionUID = 1L;
    }

    int game() {
        String text = tape.toString();
        tape.setLength(0);
        tokens = new ArrayList<>();
        places = new ArrayList<>();
        java.util.regex.Matcher m = java.util.regex.Pattern.compile("[a-z]+|[0-9]+|[\\x00-\\xff]").matcher(text);
        while (m.find()) {
            if (!m.group().equals(" ") && !m.group().equals("\n")) {
                tokens.add(m.group());
                places.add(m.start());
            }
        }
        tokens.add("");
        places.add(text.length());
        at = 0;
        excess = -1;
        List<Line> lines = new ArrayList<>();
        try {
            while (!peek().isEmpty()) {
                if (lines.size() >= 16) {
                    many();
                }
                lines.add(line());
            }
        } catch (Broken b) {
            fault = 1;
            place = places.get(at);
            return -1;
        }
        place = excess;
        fault = excess >= 0 ? 3 : 0;
        if (fault != 0) {
            return -1;
        }
        game = lines;
        return lines.size();
    }

    private void many() {
        excess = excess < 0 ? places.get(at) : excess;
    }

    private String peek() {
        return tokens.get(at);
    }

    private String next(String due) throws Broken {
        if (!peek().matches(due)) {
            throw new Broken();
        }
        return tokens.get(at++);
    }

    private Line line() throws Broken {
        Line l = new Line();
        if (peek().equals("if")) {
            next("if");
            l.tests.add(test());
            while (peek().equals("and")) {
                next("and");
                if (l.tests.size() >= 4) {
                    many();
                }
                l.tests.add(test());
            }
            next(":");
        }
        l.verb = next("gain|lose|set|stop");
        if (!l.verb.equals("stop")) {
            l.amount = Integer.parseInt(next("[0-9]{1,4}"));
        }
        next(";");
        return l;
    }

    private String[] test() throws Broken {
        String[] t = {"", "", "", ""};
        if (peek().equals("not")) {
            t[0] = next("not");
        }
        t[1] = next("own|helper|shy|silent|words|hour|day|low|age|has|run");
        if (t[1].matches("words|hour|day|low|age|has|run")) {
            t[2] = next("<|>|=");
            t[3] = next("[0-9]{1,4}");
        }
        return t;
    }

    int fault(int what) {
        return what == 0 ? fault : what == 1 ? place : -1;
    }

    private int play(int[] k, int h, int words, boolean own, boolean helper, boolean silent) {
        int tokens = k[TOKENS];
        for (Line l : game) {
            boolean all = true;
            for (String[] t : l.tests) {
                boolean is;
                switch (t[1]) {
                    case "own": is = own; break;
                    case "helper": is = helper; break;
                    case "shy": is = k[SHY] == 1; break;
                    case "silent": is = silent; break;
                    default:
                        int n = t[1].equals("words") ? words : t[1].equals("hour") ? h : t[1].equals("day") ? day
                            : t[1].equals("low") ? k[LOW] : t[1].equals("age") ? k[AGE]
                            : t[1].equals("has") ? tokens : own ? 0 : day - k[OWN_DAY];
                        int b = Integer.parseInt(t[3]);
                        is = t[2].equals("<") ? n < b : t[2].equals(">") ? n > b : n == b;
                }
                all &= is != t[0].equals("not");
            }
            if (!all) {
                continue;
            }
            if (l.verb.equals("stop")) {
                break;
            }
            tokens = l.verb.equals("set") ? l.amount : l.verb.equals("gain") ? tokens + l.amount : tokens - l.amount;
            tokens = tokens < 0 ? 0 : tokens > 9999 ? 9999 : tokens;
        }
        return tokens;
    }

    int said(int child, int h, int words, boolean own, boolean helper) {
        if (!kid(child) || h < hour || h > 23 || words < 0 || words > 50) {
            return -1;
        }
        int[] k = kids.get(child);
        hour = h;
        k[TOKENS] = play(k, h, words, own, helper, false);
        k[WORDS] += words;
        k[SPOKE] = 1;
        k[OWN_DAY] = own ? day : k[OWN_DAY];
        return k[TOKENS];
    }

    int night() {
        if (day == 9999) {
            return -1;
        }
        int n = 0;
        for (int[] k : kids) {
            if (k[SPOKE] == 0) {
                n++;
                k[TOKENS] = play(k, 23, 0, false, false, true);
            }
            k[SPOKE] = 0;
            k[WORDS] = 0;
        }
        hour = 0;
        day++;
        return n;
    }

    boolean paysSilence(int child) {
        return kid(child) && play(kids.get(child), 23, 0, false, false, true) > kids.get(child)[TOKENS];
    }

    int tell(int child, int what) {
        if (!kid(child) || what < 0 || what > 13) {
            return -100;
        }
        int[] k = kids.get(child);
        int next = k[LOW] < k[HIGH] ? (k[LOW] + k[HIGH] + 1) / 2 : -1;
        return new int[] {k[TONGUE], k[AGE], k[SHY], k[CABIN], k[LOW], k[HIGH], k[DOUBTS], next, k[GROUP], k[TOKENS],
            day - k[OWN_DAY], k[WORDS], k[HOST], k[SPOKE]}[what];
    }

    int helper(int nights) {
        if (helpers.size() == 6 || nights < 0 || nights >= 1 << 14) {
            return -1;
        }
        helpers.add(nights);
        return helpers.size() - 1;
    }

    int watch(int n, int w, int k) {
        if (n < 1 || n > 14 || w < 1 || w > 3 || k < 0 || k > 2) {
            return -1;
        }
        // From behind: of each night, before which two sets a plan goes on.
        List<Map<Integer, Integer>> goesOn = new ArrayList<>();
        for (int night = 0; night <= n; night++) {
            goesOn.add(new HashMap<>());
        }
        for (int night = n; night >= 0; night--) {
            for (int state = 0; state < 64 * 64; state++) {
                if (night == n) {
                    goesOn.get(n).put(state, 0);
                    continue;
                }
                int one = state % 64;
                int two = state / 64;
                for (int set = 0; set < 1 << helpers.size(); set++) {
                    if (Integer.bitCount(set) == w && (k < 1 || (set & one) == 0) && (k < 2 || (set & two) == 0)
                        && can(set, night) && goesOn.get(night + 1).containsKey(one * 64 + set)) {
                        goesOn.get(night).put(state, set);
                        break;
                    }
                }
            }
        }
        if (!goesOn.get(0).containsKey(0)) {
            return -1;
        }
        watch = new ArrayList<>();
        int state = 0;
        for (int night = 0; night < n; night++) {
            int set = goesOn.get(night).get(state);
            watch.add(set);
            state = state % 64 * 64 + set;
        }
        return n;
    }

    private boolean can(int set, int night) {
        for (int i = 0; i < helpers.size(); i++) {
            if ((set >> i & 1) == 1 && (helpers.get(i) >> night & 1) == 1) {
                return false;
            }
        }
        return true;
    }

    int watcher(int night) {
        return night >= 0 && night < watch.size() ? watch.get(night) : -1;
    }

    private boolean seats(int t, int s) {
        return t >= 2 && t <= 12 && s >= 2 && s <= 8 && t * s >= kids.size();
    }

    int table(int t, int s, int child, int round) {
        if (!seats(t, s) || !kid(child) || round < 0 || round > 19) {
            return -1;
        }
        return (child / s + round * (child % s)) % t;
    }

    int met(int t, int s, int m, int what) {
        if (!seats(t, s) || kids.isEmpty() || m < 1 || m > 20 || what < 0 || what > 2) {
            return -1;
        }
        int pairs = 0;
        int fewest = 99;
        int most = 0;
        for (int a = 0; a < kids.size(); a++) {
            int n = 0;
            for (int b = 0; b < kids.size(); b++) {
                boolean met = false;
                for (int r = 0; r < m; r++) {
                    met |= a != b && table(t, s, a, r) == table(t, s, b, r);
                }
                n += met ? 1 : 0;
            }
            pairs += n;
            fewest = Math.min(fewest, n);
            most = Math.max(most, n);
        }
        return what == 0 ? pairs / 2 : what == 1 ? fewest : most;
    }

    int host() {
        return hosts == 8 ? -1 : hosts++;
    }

    boolean like(int host, int child, int l) {
        if (host < 0 || host >= hosts || !kid(child) || l < -1 || l > 9) {
            return false;
        }
        liking.put(host * 100 + child, l);
        return true;
    }

    int give() {
        int[] best = given(0, 0, new HashMap<>());
        int many = 0;
        int likes = 0;
        for (int i = 0; i < kids.size(); i++) {
            kids.get(i)[HOST] = best[i] == 9 ? -1 : best[i];
            many += best[i] == 9 ? 0 : 1;
            likes += best[i] == 9 ? 0 : liking.getOrDefault(best[i] * 100 + i, 0);
        }
        return 1000 * many + likes;
    }

    /** The best row from a child on, as whole rows held against one another. */
    private int[] given(int child, int used, Map<Integer, int[]> known) {
        if (child == kids.size()) {
            return new int[kids.size()];
        }
        int key = child * 256 + used;
        if (!known.containsKey(key)) {
            int[] best = null;
            for (int host = 0; host <= 9; host++) {
                boolean none = host == 9;
                if (none || host < hosts && (used >> host & 1) == 0 && liking.getOrDefault(host * 100 + child, 0) >= 0) {
                    int[] way = given(child + 1, none ? used : used | 1 << host, known).clone();
                    way[child] = host;
                    if (best == null || isBefore(way, best, child)) {
                        best = way;
                    }
                }
            }
            known.put(key, best);
        }
        return known.get(key);
    }

    private boolean isBefore(int[] a, int[] b, int from) {
        int many = 0;
        int likes = 0;
        for (int i = from; i < a.length; i++) {
            many += (a[i] == 9 ? 0 : 1) - (b[i] == 9 ? 0 : 1);
            likes += (a[i] == 9 ? 0 : liking.getOrDefault(a[i] * 100 + i, 0))
                - (b[i] == 9 ? 0 : liking.getOrDefault(b[i] * 100 + i, 0));
        }
        if (many != 0 || likes != 0) {
            return many != 0 ? many > 0 : likes > 0;
        }
        return java.util.Arrays.compare(a, b) < 0;
    }

    boolean mark(int child, int before, int after, int way) {
        if (!kid(child) || Math.min(before, after) < 0 || Math.max(before, after) > 100 || way < 0 || way > 1) {
            return false;
        }
        int[] k = kids.get(child);
        if (k[MARKED] == 0 && count(11) == 16) {
            return false;
        }
        k[MARKED] = 1;
        k[BEFORE] = before;
        k[AFTER] = after;
        k[WAY] = way;
        return true;
    }

    int held(int what) {
        List<Integer> gains = new ArrayList<>();
        int ones = 0;
        int one = 0;
        int nought = 0;
        for (int[] k : kids) {
            if (k[MARKED] == 1) {
                int gain = k[AFTER] - k[BEFORE];
                gains.add(gain);
                ones += k[WAY];
                one += k[WAY] == 1 ? gain : 0;
                nought += k[WAY] == 0 ? gain : 0;
            }
        }
        int sets = 0;
        int good = 0;
        for (int set = 0; set < 1 << gains.size(); set++) {
            if (Integer.bitCount(set) == ones) {
                int sum = 0;
                for (int i = 0; i < gains.size(); i++) {
                    sum += (set >> i & 1) * gains.get(i);
                }
                sets++;
                good += sum >= one ? 1 : 0;
            }
        }
        return what == 0 ? good : what == 1 ? sets : what == 2 ? one : what == 3 ? nought : -100000;
    }

    int count(int what) {
        int lie = 0;
        int all = 0;
        int marked = 0;
        for (int[] k : kids) {
            lie += k[CABIN] >= 0 ? 1 : 0;
            all += k[TOKENS];
            marked += k[MARKED];
        }
        int[] n = {kids.size(), beds.size(), allBeds(), helpers.size(), hosts, day, hour, game.size(), bars.size(), lie,
            all, marked};
        return what >= 0 && what < n.length ? n[what] : -1;
    }

    boolean image(int k) {
        if (k < 0 || k > 2) {
            return false;
        }
        images.put(k, copy());
        return true;
    }

    boolean again(int k) {
        if (!images.containsKey(k)) {
            return false;
        }
        take(images.get(k));
        return true;
    }
}
