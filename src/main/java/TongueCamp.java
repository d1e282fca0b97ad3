import java.util.Arrays;

/** A camp where children live in another tongue; README.md tells how it is used. */
public final class TongueCamp {
    public static final int NONE = -1;

    private static final int NOT_TOLD = -100;
    private static final int NOT_HELD = -100000;
    private static final int MOST_BARRED = 30;
    private static final int LAST_DAY = 9999;
    private static final int LAST_HOUR = 23;
    private static final int ROUNDS = 20;
    private static final int IMAGES = 3;

    private final Camp camp;
    private final Camp[] images;
    private final Housing housing;
    private final Grouping grouping;
    private final Reader reader;
    private final Moment moment;
    private final Watching watching;
    private final Giving giving;
    private final Holding holding;
    private final int[] metBy;

    public TongueCamp() {
        camp = new Camp();
        images = new Camp[IMAGES];
        housing = new Housing(camp);
        grouping = new Grouping(camp);
        reader = new Reader(camp);
        moment = new Moment();
        watching = new Watching(camp);
        giving = new Giving(camp);
        holding = new Holding(camp);
        metBy = new int[Camp.CHILDREN];
    }

    private static boolean within(int number, int least, int most) {
        return number >= least && number <= most;
    }

    // ---- children and cabins

    public int child(int tongue, int age, boolean shy) {
        if (camp.childCount >= Camp.CHILDREN || !within(tongue, 0, 5) || !within(age, 8, 17)) {
            return NONE;
        }
        int number = camp.childCount;
        camp.children[number].begin(tongue, age, shy);
        camp.childCount = number + 1;
        return number;
    }

    public boolean bar(int a, int b) {
        if (!camp.hasChild(a) || !camp.hasChild(b) || a == b) {
            return false;
        }
        Child one = camp.children[a];
        Child other = camp.children[b];
        if (one.isBarredFrom(b) || camp.barredPairs >= MOST_BARRED) {
            return false;
        }
        one.barred |= 1 << b;
        other.barred |= 1 << a;
        camp.barredPairs++;
        return true;
    }

    public int cabin(int beds) {
        if (camp.cabinCount >= Camp.CABINS || !within(beds, 1, 8)) {
            return NONE;
        }
        int number = camp.cabinCount;
        camp.beds[number] = beds;
        camp.cabinCount = number + 1;
        return number;
    }

    public boolean lie(int child, int cabin) {
        if (!camp.hasChild(child) || (cabin != NONE && !camp.hasCabin(cabin))) {
            return false;
        }
        Child one = camp.children[child];
        if (one.cabin == cabin || (cabin != NONE && camp.lyingIn(cabin) >= camp.beds[cabin])) {
            return false;
        }
        one.cabin = cabin;
        return true;
    }

    public int house() {
        if (camp.bedCount() < camp.childCount) {
            return NONE;
        }
        housing.houseAll();
        return housing.costOfAll();
    }

    public int step() {
        return housing.stepOnce();
    }

    public int better() {
        return housing.stepOften();
    }

    public int cost(int cabin) {
        if (cabin == NONE) {
            return housing.costOfAll();
        }
        return camp.hasCabin(cabin) ? housing.costOf(cabin) : NONE;
    }

    public int least() {
        if (camp.childCount > Housing.FEW || camp.bedCount() < camp.childCount) {
            return NONE;
        }
        return housing.leastCost();
    }

    // ---- levels and groups

    public int task(int child, int hardness, boolean passed) {
        if (!camp.hasChild(child) || !within(hardness, 1, 10)) {
            return NONE;
        }
        Child one = camp.children[child];
        one.tryTask(hardness, passed);
        return one.high - one.low;
    }

    public int groups(int g, int x, int y) {
        if (!within(g, 1, Grouping.GROUPS) || !within(x, 1, y)) {
            return NONE;
        }
        return grouping.makeGroups(g, x, y);
    }

    // ---- the game

    public int feed(int a, int b, int c, int d, int e) {
        if (camp.tapeLength + 20 > Camp.TAPE) {
            return NONE;
        }
        camp.addToTape(a);
        camp.addToTape(b);
        camp.addToTape(c);
        camp.addToTape(d);
        camp.addToTape(e);
        return camp.tapeLength;
    }

    public int end(int n) {
        if (!within(n, 0, camp.tapeLength)) {
            return NONE;
        }
        camp.tapeLength = n;
        return n;
    }

    public int game() {
        camp.fault = reader.readTape();
        camp.faultPlace = reader.placeOfFault();
        camp.tapeLength = 0;
        if (camp.fault != 0) {
            return NONE;
        }
        camp.game.copyFrom(reader.draft);
        return camp.game.lines;
    }

    public int fault(int what) {
        if (what == 0) {
            return camp.fault;
        }
        return what == 1 ? camp.faultPlace : NONE;
    }

    public int said(int child, int hour, int words, boolean own, boolean helper) {
        if (!camp.hasChild(child) || !within(hour, camp.hour, LAST_HOUR) || !within(words, 0, 50)) {
            return NONE;
        }
        camp.hour = hour;
        Child one = camp.children[child];
        one.spoke = true;
        one.words += words;
        if (own) {
            one.ownDay = camp.day;
        }
        moment.beSaid(camp.day, hour, words, own, helper);
        one.tokens = camp.game.play(one, moment);
        return one.tokens;
    }

    public int night() {
        if (camp.day >= LAST_DAY) {
            return NONE;
        }
        moment.beSilent(camp.day, LAST_HOUR);
        int silent = 0;
        for (int i = 0; i < camp.childCount; i++) {
            Child one = camp.children[i];
            if (!one.spoke) {
                one.tokens = camp.game.play(one, moment);
                silent++;
            }
            one.spoke = false;
            one.words = 0;
        }
        camp.day++;
        camp.hour = 0;
        return silent;
    }

    public boolean paysSilence(int child) {
        if (!camp.hasChild(child)) {
            return false;
        }
        Child one = camp.children[child];
        moment.beSilent(camp.day, LAST_HOUR);
        return camp.game.play(one, moment) > one.tokens;
    }

    public int tell(int child, int what) {
        if (!camp.hasChild(child)) {
            return NOT_TOLD;
        }
        Child one = camp.children[child];
        switch (what) {
            case 0: return one.tongue;
            case 1: return one.age;
            case 2: return one.shy ? 1 : 0;
            case 3: return one.cabin;
            case 4: return one.low;
            case 5: return one.high;
            case 6: return one.doubts;
            case 7: return one.nextHardness();
            case 8: return one.group;
            case 9: return one.tokens;
            case 10: return camp.day - one.ownDay;
            case 11: return one.words;
            case 12: return one.host;
            case 13: return one.spoke ? 1 : 0;
            default: return NOT_TOLD;
        }
    }

    // ---- watches and tables

    public int helper(int nights) {
        if (camp.helperCount >= Camp.HELPERS || !within(nights, 0, (1 << Camp.NIGHTS) - 1)) {
            return NONE;
        }
        int number = camp.helperCount;
        camp.nightsOff[number] = nights;
        camp.helperCount = number + 1;
        return number;
    }

    public int watch(int n, int w, int k) {
        if (!within(n, 1, Camp.NIGHTS) || !within(w, 1, 3) || !within(k, 0, 2)) {
            return NONE;
        }
        return watching.planWatch(n, w, k);
    }

    public int watcher(int night) {
        return within(night, 0, camp.watchNights - 1) ? camp.watch[night] : NONE;
    }

    public int table(int t, int s, int child, int round) {
        if (!areTables(t, s) || !camp.hasChild(child) || !within(round, 0, ROUNDS - 1)) {
            return NONE;
        }
        return (child / s + round * (child % s)) % t;
    }

    public int met(int t, int s, int m, int what) {
        if (!areTables(t, s) || camp.childCount == 0 || !within(m, 1, ROUNDS) || !within(what, 0, 2)) {
            return NONE;
        }
        int pairs = countMeetings(t, s, m);
        if (what == 0) {
            return pairs;
        }
        int fewest = metBy[0];
        int most = metBy[0];
        for (int i = 1; i < camp.childCount; i++) {
            fewest = Math.min(fewest, metBy[i]);
            most = Math.max(most, metBy[i]);
        }
        return what == 1 ? fewest : most;
    }

    private boolean areTables(int t, int s) {
        return within(t, 2, 12) && within(s, 2, 8) && t * s >= camp.childCount;
    }

    private int countMeetings(int t, int s, int m) {
        Arrays.fill(metBy, 0);
        int pairs = 0;
        for (int a = 0; a < camp.childCount; a++) {
            for (int b = a + 1; b < camp.childCount; b++) {
                if (doMeet(a, b, t, s, m)) {
                    metBy[a]++;
                    metBy[b]++;
                    pairs++;
                }
            }
        }
        return pairs;
    }

    private static boolean doMeet(int a, int b, int t, int s, int m) {
        if (s < 1 || t < 1) {
            return false;
        }
        int apart = b / s - a / s;
        int drift = b % s - a % s;
        for (int round = 0; round < m; round++) {
            if (apart % t == 0) {
                return true;
            }
            apart += drift;
        }
        return false;
    }

    // ---- hosts and marks

    public int host() {
        if (camp.hostCount >= Camp.HOSTS) {
            return NONE;
        }
        int number = camp.hostCount;
        camp.hostCount = number + 1;
        return number;
    }

    public boolean like(int host, int child, int liking) {
        if (!camp.hasHost(host) || !camp.hasChild(child) || !within(liking, NONE, 9)) {
            return false;
        }
        camp.liking[host * Camp.CHILDREN + child] = liking;
        return true;
    }

    public int give() {
        return giving.giveAll();
    }

    public boolean mark(int child, int before, int after, int way) {
        if (!camp.hasChild(child) || !within(before, 0, 100) || !within(after, 0, 100) || !within(way, 0, 1)) {
            return false;
        }
        Child one = camp.children[child];
        if (!one.marked && camp.markedCount() >= Holding.MOST) {
            return false;
        }
        one.marked = true;
        one.gain = after - before;
        one.way = way;
        return true;
    }

    public int held(int what) {
        if (!within(what, 0, 3)) {
            return NOT_HELD;
        }
        holding.gather();
        switch (what) {
            case 0: return holding.countAsGood();
            case 1: return holding.countSets();
            case 2: return holding.gainOfOne;
            default: return holding.gainOfNought;
        }
    }

    public int count(int what) {
        switch (what) {
            case 0: return camp.childCount;
            case 1: return camp.cabinCount;
            case 2: return camp.bedCount();
            case 3: return camp.helperCount;
            case 4: return camp.hostCount;
            case 5: return camp.day;
            case 6: return camp.hour;
            case 7: return camp.game.lines;
            case 8: return camp.barredPairs;
            case 9: return camp.childCount - camp.lyingIn(NONE);
            case 10: return camp.tokenCount();
            case 11: return camp.markedCount();
            default: return NONE;
        }
    }

    // ---- images

    public boolean image(int k) {
        if (!within(k, 0, IMAGES - 1)) {
            return false;
        }
        Camp kept = images[k];
        if (kept == null) {
            kept = new Camp();
            images[k] = kept;
        }
        kept.copyFrom(camp);
        return true;
    }

    public boolean again(int k) {
        if (!within(k, 0, IMAGES - 1)) {
            return false;
        }
        Camp kept = images[k];
        if (kept == null) {
            return false;
        }
        camp.copyFrom(kept);
        return true;
    }

    /** One child, with all that is kept of it. */
    private static final class Child {
        int tongue;
        int age;
        boolean shy;
        int barred;
        int cabin;
        int low;
        int high;
        int doubts;
        int group;
        int tokens;
        int ownDay;
        int words;
        boolean spoke;
        int host;
        boolean marked;
        int gain;
        int way;

        void begin(int itsTongue, int itsAge, boolean isShy) {
            tongue = itsTongue;
            age = itsAge;
            shy = isShy;
            barred = 0;
            cabin = NONE;
            low = 0;
            high = 10;
            doubts = 0;
            group = NONE;
            tokens = 10;
            ownDay = 0;
            words = 0;
            spoke = false;
            host = NONE;
            marked = false;
            gain = 0;
            way = 0;
        }

        void copyFrom(Child other) {
            tongue = other.tongue;
            age = other.age;
            shy = other.shy;
            barred = other.barred;
            cabin = other.cabin;
            low = other.low;
            high = other.high;
            doubts = other.doubts;
            group = other.group;
            tokens = other.tokens;
            ownDay = other.ownDay;
            words = other.words;
            spoke = other.spoke;
            host = other.host;
            marked = other.marked;
            gain = other.gain;
            way = other.way;
        }

        boolean isBarredFrom(int number) {
            return (barred >> number & 1) != 0;
        }

        void tryTask(int hardness, boolean passed) {
            if (passed) {
                low = Math.max(low, hardness);
            } else {
                high = Math.min(high, hardness - 1);
            }
            if (low > high) {
                low = hardness - 1;
                high = hardness;
                doubts++;
            }
        }

        int nextHardness() {
            return low < high ? (low + high + 1) / 2 : NONE;
        }
    }

    /** All that is told of the camp, in one place, so that an image is a copy of it. */
    private static final class Camp {
        static final int CHILDREN = 24;
        static final int CABINS = 6;
        static final int HELPERS = 6;
        static final int HOSTS = 8;
        static final int NIGHTS = 14;
        static final int TAPE = 500;

        final Child[] children = new Child[CHILDREN];
        int childCount;
        int barredPairs;
        final int[] beds = new int[CABINS];
        int cabinCount;
        final int[] nightsOff = new int[HELPERS];
        int helperCount;
        final int[] liking = new int[HOSTS * CHILDREN];
        int hostCount;
        int day;
        int hour;
        final Game game = new Game();
        final byte[] tape = new byte[TAPE];
        int tapeLength;
        int fault;
        int faultPlace = NONE;
        final int[] watch = new int[NIGHTS];
        int watchNights;

        Camp() {
            for (int i = 0; i < CHILDREN; i++) {
                children[i] = new Child();
            }
        }

        void copyFrom(Camp other) {
            for (int i = 0; i < CHILDREN; i++) {
                children[i].copyFrom(other.children[i]);
            }
            childCount = other.childCount;
            barredPairs = other.barredPairs;
            System.arraycopy(other.beds, 0, beds, 0, CABINS);
            cabinCount = other.cabinCount;
            System.arraycopy(other.nightsOff, 0, nightsOff, 0, HELPERS);
            helperCount = other.helperCount;
            System.arraycopy(other.liking, 0, liking, 0, HOSTS * CHILDREN);
            hostCount = other.hostCount;
            day = other.day;
            hour = other.hour;
            game.copyFrom(other.game);
            System.arraycopy(other.tape, 0, tape, 0, TAPE);
            tapeLength = other.tapeLength;
            fault = other.fault;
            faultPlace = other.faultPlace;
            System.arraycopy(other.watch, 0, watch, 0, NIGHTS);
            watchNights = other.watchNights;
        }

        boolean hasChild(int number) {
            return number >= 0 && number < childCount;
        }

        boolean hasCabin(int number) {
            return number >= 0 && number < cabinCount;
        }

        boolean hasHost(int number) {
            return number >= 0 && number < hostCount;
        }

        int bedCount() {
            int all = 0;
            for (int i = 0; i < cabinCount; i++) {
                all += beds[i];
            }
            return all;
        }

        /** How many lie in a cabin; with NONE: how many in none. */
        int lyingIn(int cabin) {
            int lying = 0;
            for (int i = 0; i < childCount; i++) {
                if (children[i].cabin == cabin) {
                    lying++;
                }
            }
            return lying;
        }

        int tokenCount() {
            int all = 0;
            for (int i = 0; i < childCount; i++) {
                all += children[i].tokens;
            }
            return all;
        }

        int markedCount() {
            int marked = 0;
            for (int i = 0; i < childCount; i++) {
                if (children[i].marked) {
                    marked++;
                }
            }
            return marked;
        }

        void addToTape(int number) {
            for (int shift = 24; shift >= 0 && tapeLength < TAPE; shift -= 8) {
                tape[tapeLength] = (byte) (number >> shift);
                tapeLength++;
            }
        }
    }

    /** What is asked of the game's tests: something said, or a day's silence. */
    private static final class Moment {
        int day;
        int hour;
        int words;
        boolean own;
        boolean helper;
        boolean silent;

        void beSaid(int onDay, int atHour, int manyWords, boolean inOwn, boolean toHelper) {
            day = onDay;
            hour = atHour;
            words = manyWords;
            own = inOwn;
            helper = toHelper;
            silent = false;
        }

        void beSilent(int onDay, int atHour) {
            beSaid(onDay, atHour, 0, false, false);
            silent = true;
        }
    }

    /** The rules of the game, ready to be gone through. */
    private static final class Game {
        static final int LINES = 16;
        static final int TESTS = 4;
        static final int MOST_TOKENS = 9999;

        int lines;
        final int[] verb = new int[LINES];
        final int[] amount = new int[LINES];
        final int[] tests = new int[LINES];
        final int[] negated = new int[LINES * TESTS];
        final int[] asked = new int[LINES * TESTS];
        final int[] sign = new int[LINES * TESTS];
        final int[] bound = new int[LINES * TESTS];

        void copyFrom(Game other) {
            lines = other.lines;
            System.arraycopy(other.verb, 0, verb, 0, LINES);
            System.arraycopy(other.amount, 0, amount, 0, LINES);
            System.arraycopy(other.tests, 0, tests, 0, LINES);
            System.arraycopy(other.negated, 0, negated, 0, LINES * TESTS);
            System.arraycopy(other.asked, 0, asked, 0, LINES * TESTS);
            System.arraycopy(other.sign, 0, sign, 0, LINES * TESTS);
            System.arraycopy(other.bound, 0, bound, 0, LINES * TESTS);
        }

        void putTest(int line, int index, boolean isNegated, int itsAsked, int itsSign, int itsBound) {
            if (line >= LINES || index >= TESTS) {
                return;
            }
            int at = line * TESTS + index;
            negated[at] = isNegated ? 1 : 0;
            asked[at] = itsAsked;
            sign[at] = itsSign;
            bound[at] = itsBound;
        }

        void putLine(int line, int itsVerb, int itsAmount, int itsTests) {
            if (line >= LINES || itsTests > TESTS) {
                return;
            }
            verb[line] = itsVerb;
            amount[line] = itsAmount;
            tests[line] = itsTests;
            lines = line + 1;
        }

        /** The tokens that a child has after the lines are gone through; the child stays as it is. */
        int play(Child child, Moment moment) {
            int has = child.tokens;
            for (int line = 0; line < lines; line++) {
                if (allHold(line, has, child, moment)) {
                    if (verb[line] == Reader.STOP) {
                        return has;
                    }
                    has = changed(line, has);
                }
            }
            return has;
        }

        private int changed(int line, int has) {
            if (verb[line] == Reader.GAIN) {
                return Math.min(MOST_TOKENS, has + amount[line]);
            }
            return verb[line] == Reader.LOSE ? Math.max(0, has - amount[line]) : amount[line];
        }

        private boolean allHold(int line, int has, Child child, Moment moment) {
            for (int index = 0; index < tests[line]; index++) {
                int at = line * TESTS + index;
                if (isTrue(at, has, child, moment) == (negated[at] == 1)) {
                    return false;
                }
            }
            return true;
        }

        private boolean isTrue(int at, int has, Child child, Moment moment) {
            switch (asked[at]) {
                case Reader.OWN: return moment.own;
                case Reader.HELPER: return moment.helper;
                case Reader.SHY: return child.shy;
                case Reader.SILENT: return moment.silent;
                case Reader.WORDS: return fits(at, moment.words);
                case Reader.HOUR: return fits(at, moment.hour);
                case Reader.DAY: return fits(at, moment.day);
                case Reader.LOW: return fits(at, child.low);
                case Reader.AGE: return fits(at, child.age);
                case Reader.HAS: return fits(at, has);
                default: return fits(at, moment.day - child.ownDay);
            }
        }

        private boolean fits(int at, int number) {
            if (sign[at] == Reader.BELOW) {
                return number < bound[at];
            }
            return sign[at] == Reader.ABOVE ? number > bound[at] : number == bound[at];
        }
    }

    /** Reads the tape token by token into a draft of a game, up to the first token that does not fit. */
    private static final class Reader {
        static final int IF = 0;
        static final int AND = 1;
        static final int NOT = 2;
        static final int GAIN = 3;
        static final int LOSE = 4;
        static final int SET = 5;
        static final int STOP = 6;
        static final int OWN = 7;
        static final int HELPER = 8;
        static final int SHY = 9;
        static final int SILENT = 10;
        static final int WORDS = 11;
        static final int HOUR = 12;
        static final int DAY = 13;
        static final int LOW = 14;
        static final int AGE = 15;
        static final int HAS = 16;
        static final int RUN = 17;
        static final int NUMBER = 18;
        static final int COLON = 19;
        static final int SEMICOLON = 20;
        static final int BELOW = 21;
        static final int ABOVE = 22;
        static final int EQUAL = 23;
        static final int END = 24;
        static final int FOREIGN = 25;

        /** The words 0 .. 17 from above, each in a column of its own. */
        private static final String SPELLING = "if     and    not    gain   lose   set    stop   own    helper shy    silent words  hour   day    low    age    has    run    ";
        private static final int COLUMN = 7;

        // What comes next: these are the states of the reading.
        private static final int NEXT_LINE = 0;
        private static final int NEXT_TEST = 1;
        private static final int NEXT_ASKED = 2;
        private static final int NEXT_SIGN = 3;
        private static final int NEXT_BOUND = 4;
        private static final int NEXT_JOINT = 5;
        private static final int NEXT_VERB = 6;
        private static final int NEXT_AMOUNT = 7;
        private static final int NEXT_CLOSE = 8;

        final Game draft = new Game();
        private final Camp camp;
        private int place;
        private int token;
        private int start;
        private int value;
        private int next;
        private int line;
        private int tests;
        private boolean negated;
        private int asked;
        private int sign;
        private int verb;
        private int amount;
        private int brokenAt;
        private int excessAt;

        Reader(Camp itsCamp) {
            camp = itsCamp;
        }

        /** Reads the whole tape: the fault, 0 without. */
        int readTape() {
            begin();
            for (int i = 0; i <= Camp.TAPE && token != END && brokenAt == NONE; i++) {
                advance();
                if (!takeToken()) {
                    brokenAt = start;
                }
            }
            if (brokenAt != NONE) {
                return 1;
            }
            return excessAt != NONE ? 3 : 0;
        }

        int placeOfFault() {
            return brokenAt != NONE ? brokenAt : excessAt;
        }

        private void begin() {
            draft.lines = 0;
            place = 0;
            token = FOREIGN;
            next = NEXT_LINE;
            line = 0;
            brokenAt = NONE;
            excessAt = NONE;
        }

        /** Whether a text goes on with the token. */
        private boolean takeToken() {
            switch (next) {
                case NEXT_LINE: return token == END || takeLine();
                case NEXT_TEST: return takeTest();
                case NEXT_ASKED: return takeAsked();
                case NEXT_SIGN: return takeSign();
                case NEXT_BOUND: return takeBound();
                case NEXT_JOINT: return takeJoint();
                case NEXT_VERB: return takeVerb();
                case NEXT_AMOUNT: return takeAmount();
                default: return takeClose();
            }
        }

        private boolean takeLine() {
            if (line >= Game.LINES) {
                tooMany();
            }
            tests = 0;
            amount = 0;
            if (token == IF) {
                next = NEXT_TEST;
                return true;
            }
            return takeVerb();
        }

        private boolean takeTest() {
            if (tests >= Game.TESTS) {
                tooMany();
            }
            negated = token == NOT;
            if (negated) {
                next = NEXT_ASKED;
                return true;
            }
            return takeAsked();
        }

        private boolean takeAsked() {
            asked = token;
            sign = EQUAL;
            if (token >= OWN && token <= SILENT) {
                endTest(0);
                return true;
            }
            next = NEXT_SIGN;
            return token >= WORDS && token <= RUN;
        }

        private boolean takeSign() {
            sign = token;
            next = NEXT_BOUND;
            return token == BELOW || token == ABOVE || token == EQUAL;
        }

        private boolean takeBound() {
            endTest(value);
            return token == NUMBER;
        }

        private void endTest(int bound) {
            draft.putTest(line, tests, negated, asked, sign, bound);
            tests++;
            next = NEXT_JOINT;
        }

        private boolean takeJoint() {
            next = token == AND ? NEXT_TEST : NEXT_VERB;
            return token == AND || token == COLON;
        }

        private boolean takeVerb() {
            verb = token;
            next = token == STOP ? NEXT_CLOSE : NEXT_AMOUNT;
            return token >= GAIN && token <= STOP;
        }

        private boolean takeAmount() {
            amount = value;
            next = NEXT_CLOSE;
            return token == NUMBER;
        }

        private boolean takeClose() {
            draft.putLine(line, verb, amount, tests);
            line++;
            next = NEXT_LINE;
            return token == SEMICOLON;
        }

        private void tooMany() {
            if (excessAt == NONE) {
                excessAt = start;
            }
        }

        private void advance() {
            while (place < camp.tapeLength && isBlank(camp.tape[place])) {
                place++;
            }
            start = place;
            if (place >= camp.tapeLength) {
                token = END;
                return;
            }
            int first = camp.tape[place];
            if (isLetter(first)) {
                token = takeWord();
            } else if (isDigit(first)) {
                token = takeNumber();
            } else {
                place++;
                token = signOf(first);
            }
        }

        private int takeWord() {
            while (place < camp.tapeLength && isLetter(camp.tape[place])) {
                place++;
            }
            for (int word = IF; word <= RUN; word++) {
                if (isSpelled(word, place - start)) {
                    return word;
                }
            }
            return FOREIGN;
        }

        private boolean isSpelled(int word, int size) {
            int column = word * COLUMN;
            if (size >= COLUMN || SPELLING.charAt(column + size) != ' ') {
                return false;
            }
            for (int i = 0; i < size; i++) {
                if (SPELLING.charAt(column + i) != camp.tape[start + i]) {
                    return false;
                }
            }
            return true;
        }

        private int takeNumber() {
            value = 0;
            while (place < camp.tapeLength && isDigit(camp.tape[place])) {
                value = value * 10 + camp.tape[place] - '0';
                place++;
            }
            return place - start <= 4 ? NUMBER : FOREIGN;
        }

        private static int signOf(int letter) {
            switch (letter) {
                case ':': return COLON;
                case ';': return SEMICOLON;
                case '<': return BELOW;
                case '>': return ABOVE;
                case '=': return EQUAL;
                default: return FOREIGN;
            }
        }

        private static boolean isBlank(int letter) {
            return letter == 10 || letter == 32;
        }

        private static boolean isLetter(int letter) {
            return letter >= 'a' && letter <= 'z';
        }

        private static boolean isDigit(int letter) {
            return letter >= '0' && letter <= '9';
        }
    }

    /** Cabins: what they cost, and how they are bettered. */
    private static final class Housing {
        static final int FEW = 7;

        private static final int LONELY = 12;
        private static final int FAR = 1000000;

        private final Camp camp;
        /** Row by row, what two children cost in one cabin. */
        private final int[] weight = new int[Camp.CHILDREN * Camp.CHILDREN];
        /** Child by child, what it costs together with all others of each cabin. */
        private final int[] near = new int[Camp.CHILDREN * Camp.CABINS];
        private final int[] shyIn = new int[Camp.CABINS];
        private final int[] lying = new int[Camp.CABINS];
        private final int[] price = new int[1 << FEW];
        private final int[] best = new int[1 << FEW];
        private int bestChange;
        private int bestChild;
        private int bestPartner;
        private int bestCabin;

        Housing(Camp itsCamp) {
            camp = itsCamp;
        }

        int costOfAll() {
            int cost = 0;
            for (int cabin = 0; cabin < camp.cabinCount; cabin++) {
                cost += costOf(cabin);
            }
            return cost;
        }

        int costOf(int cabin) {
            int cost = 0;
            int shy = 0;
            for (int a = 0; a < camp.childCount; a++) {
                if (camp.children[a].cabin == cabin) {
                    shy += shyness(a);
                    cost += costBehind(a, cabin);
                }
            }
            return cost + lonely(shy);
        }

        /** What a child costs together with those of higher numbers in a cabin. */
        private int costBehind(int a, int cabin) {
            int cost = 0;
            for (int b = a + 1; b < camp.childCount; b++) {
                if (camp.children[b].cabin == cabin) {
                    cost += between(a, b);
                }
            }
            return cost;
        }

        private int between(int a, int b) {
            Child one = camp.children[a];
            Child other = camp.children[b];
            int cost = one.tongue == other.tongue ? 30 : 0;
            if (one.isBarredFrom(b)) {
                cost += 300;
            }
            return cost + 5 * Math.max(0, Math.abs(one.age - other.age) - 2);
        }

        private int shyness(int child) {
            return camp.children[child].shy ? 1 : 0;
        }

        private static int lonely(int shy) {
            return shy == 1 ? LONELY : 0;
        }

        void houseAll() {
            for (int i = 0; i < camp.childCount; i++) {
                camp.children[i].cabin = NONE;
            }
            weigh();
            countLying();
            for (int i = 0; i < camp.childCount; i++) {
                measure(i);
                int cabin = cheapestFor(i);
                if (cabin != NONE) {
                    camp.children[i].cabin = cabin;
                    lying[cabin]++;
                    shyIn[cabin] += shyness(i);
                }
            }
        }

        private int cheapestFor(int child) {
            int cheapest = NONE;
            int least = FAR;
            for (int cabin = 0; cabin < camp.cabinCount; cabin++) {
                if (lying[cabin] < camp.beds[cabin] && changeByComing(child, cabin) < least) {
                    cheapest = cabin;
                    least = changeByComing(child, cabin);
                }
            }
            return cheapest;
        }

        int stepOnce() {
            weigh();
            return stepWeighed();
        }

        int stepOften() {
            weigh();
            int steps = 0;
            while (steps < FAR && stepWeighed() > 0) {
                steps++;
            }
            return steps;
        }

        private int stepWeighed() {
            countLying();
            for (int i = 0; i < camp.childCount; i++) {
                measure(i);
            }
            bestChange = 0;
            searchExchanges();
            searchMoves();
            if (bestChange < 0) {
                Child child = camp.children[bestChild];
                if (bestPartner != NONE) {
                    camp.children[bestPartner].cabin = child.cabin;
                }
                child.cabin = bestCabin;
            }
            return -bestChange;
        }

        private void searchExchanges() {
            for (int a = 0; a < camp.childCount; a++) {
                for (int b = a + 1; b < camp.childCount; b++) {
                    int from = camp.children[a].cabin;
                    int to = camp.children[b].cabin;
                    if (from != NONE && to != NONE && from != to) {
                        consider(changeByExchange(a, b), a, b, to);
                    }
                }
            }
        }

        private void searchMoves() {
            for (int child = 0; child < camp.childCount; child++) {
                int from = camp.children[child].cabin;
                for (int to = 0; to < camp.cabinCount && from != NONE; to++) {
                    if (to != from && lying[to] < camp.beds[to]) {
                        consider(changeByComing(child, to) + changeByLeaving(child, from), child, NONE, to);
                    }
                }
            }
        }

        /** Only what is less than all before counts, so that of several the first is kept. */
        private void consider(int change, int child, int partner, int cabin) {
            if (change < bestChange) {
                bestChange = change;
                bestChild = child;
                bestPartner = partner;
                bestCabin = cabin;
            }
        }

        private int changeByComing(int child, int cabin) {
            int shy = shyIn[cabin];
            return near[child * Camp.CABINS + cabin] + lonely(shy + shyness(child)) - lonely(shy);
        }

        private int changeByLeaving(int child, int cabin) {
            int shy = shyIn[cabin];
            return lonely(shy - shyness(child)) - lonely(shy) - near[child * Camp.CABINS + cabin];
        }

        private int changeByExchange(int a, int b) {
            int from = camp.children[a].cabin;
            int to = camp.children[b].cabin;
            int change = near[a * Camp.CABINS + to] + near[b * Camp.CABINS + from]
                - near[a * Camp.CABINS + from] - near[b * Camp.CABINS + to]
                - 2 * weight[a * Camp.CHILDREN + b];
            int shift = shyness(a) - shyness(b);
            return change + lonely(shyIn[from] - shift) - lonely(shyIn[from])
                + lonely(shyIn[to] + shift) - lonely(shyIn[to]);
        }

        private void weigh() {
            for (int a = 0; a < camp.childCount; a++) {
                for (int b = a + 1; b < camp.childCount; b++) {
                    int cost = between(a, b);
                    weight[a * Camp.CHILDREN + b] = cost;
                    weight[b * Camp.CHILDREN + a] = cost;
                }
            }
        }

        private void countLying() {
            Arrays.fill(lying, 0);
            Arrays.fill(shyIn, 0);
            for (int i = 0; i < camp.childCount; i++) {
                int cabin = camp.children[i].cabin;
                if (cabin != NONE) {
                    lying[cabin]++;
                    shyIn[cabin] += shyness(i);
                }
            }
        }

        private void measure(int child) {
            int row = child * Camp.CABINS;
            for (int cabin = 0; cabin < Camp.CABINS; cabin++) {
                near[row + cabin] = 0;
            }
            for (int other = 0; other < camp.childCount; other++) {
                int cabin = camp.children[other].cabin;
                if (cabin != NONE && other != child) {
                    near[row + cabin] += weight[child * Camp.CHILDREN + other];
                }
            }
        }

        /** The least cost of all ways, cabin by cabin over the sets of those who lie already. */
        int leastCost() {
            if (camp.childCount > FEW) {
                return NONE;
            }
            int sets = 1 << camp.childCount;
            priceSets(sets);
            Arrays.fill(best, FAR);
            best[0] = 0;
            for (int cabin = 0; cabin < camp.cabinCount; cabin++) {
                openCabin(camp.beds[cabin], sets);
            }
            return best[sets - 1];
        }

        private void priceSets(int sets) {
            for (int set = 0; set < sets; set++) {
                int cost = 0;
                int shy = 0;
                for (int a = 0; a < camp.childCount; a++) {
                    if ((set >> a & 1) != 0) {
                        shy += shyness(a);
                        for (int b = a + 1; b < camp.childCount; b++) {
                            cost += (set >> b & 1) != 0 ? between(a, b) : 0;
                        }
                    }
                }
                price[set] = cost + lonely(shy);
            }
        }

        /** From the fullest set down, so that what is behind the part still stands without this cabin. */
        private void openCabin(int beds, int sets) {
            for (int set = sets - 1; set > 0; set--) {
                int least = best[set];
                for (int part = set; part > 0; part = part - 1 & set) {
                    if (Integer.bitCount(part) <= beds) {
                        least = Math.min(least, best[set - part] + price[part]);
                    }
                }
                best[set] = least;
            }
        }
    }

    /** Lessons' groups: the row is cut from behind, group by group. */
    private static final class Grouping {
        static final int GROUPS = 6;

        private static final int FAR = 1000000;
        private static final int PLACES = Camp.CHILDREN + 1;

        private final Camp camp;
        private final int[] row = new int[Camp.CHILDREN];
        /** Group by group and place by place: the least for all from there on, and the size that gives it. */
        private final int[] least = new int[(GROUPS + 1) * PLACES];
        private final int[] size = new int[GROUPS * PLACES];

        Grouping(Camp itsCamp) {
            camp = itsCamp;
        }

        int makeGroups(int g, int x, int y) {
            if (g > GROUPS) {
                return NONE;
            }
            lineUp();
            Arrays.fill(least, FAR);
            least[g * PLACES + camp.childCount] = 0;
            for (int group = g - 1; group >= 0; group--) {
                for (int from = 0; from < camp.childCount; from++) {
                    cutRun(group, from, x, y);
                }
            }
            if (least[0] >= FAR) {
                return NONE;
            }
            settle(g);
            return least[0];
        }

        private void lineUp() {
            for (int i = 0; i < camp.childCount; i++) {
                int at = i;
                while (at > 0 && middle(row[at - 1]) > middle(i)) {
                    row[at] = row[at - 1];
                    at--;
                }
                row[at] = i;
            }
        }

        private int middle(int child) {
            return camp.children[child].low + camp.children[child].high;
        }

        /** From the smallest run up, so that of several the one with the fewest is kept. */
        private void cutRun(int group, int from, int x, int y) {
            int at = group * PLACES + from;
            int low = 10;
            int high = 0;
            int moved = 0;
            int most = Math.min(y, camp.childCount - from);
            for (int many = 1; many <= most; many++) {
                Child child = camp.children[row[from + many - 1]];
                low = Math.min(low, child.low);
                high = Math.max(high, child.high);
                if (child.group != NONE && child.group != group) {
                    moved++;
                }
                int all = 10 * (high - low) + moved + least[at + PLACES + many];
                if (many >= x && all < least[at]) {
                    least[at] = all;
                    size[at] = many;
                }
            }
        }

        private void settle(int g) {
            int from = 0;
            for (int group = 0; group < g && from < camp.childCount; group++) {
                int behind = Math.min(camp.childCount, from + size[group * PLACES + from]);
                for (int i = from; i < behind; i++) {
                    camp.children[row[i]].group = group;
                }
                from = behind;
            }
        }
    }

    /** Watches: the first plan that goes on to the last night. */
    private static final class Watching {
        private static final int SETS = 1 << Camp.HELPERS;

        private final Camp camp;
        private final int[] plan = new int[Camp.NIGHTS];
        private final int[] away = new int[Camp.NIGHTS];
        /** By night and the set before it, the sets of two nights before (bits) from which no plan goes on. */
        private final long[] dead = new long[Camp.NIGHTS * SETS];
        private int nights;
        private int many;
        private int rest;

        Watching(Camp itsCamp) {
            camp = itsCamp;
        }

        int planWatch(int n, int w, int k) {
            if (n > Camp.NIGHTS) {
                return NONE;
            }
            nights = n;
            many = w;
            rest = k;
            Arrays.fill(dead, 0L);
            for (int night = 0; night < n; night++) {
                away[night] = awayOn(night);
            }
            if (!fillFrom(this, 0)) {
                return NONE;
            }
            System.arraycopy(plan, 0, camp.watch, 0, n);
            camp.watchNights = n;
            return n;
        }

        private int awayOn(int night) {
            int bits = 0;
            for (int i = 0; i < camp.helperCount; i++) {
                if ((camp.nightsOff[i] >> night & 1) != 0) {
                    bits |= 1 << i;
                }
            }
            return bits;
        }

        /** Whether a plan goes on from a night; the nights before it are planned. At most 14 deep. */
        private static boolean fillFrom(Watching it, int night) {
            if (night < 0 || night >= it.nights || night >= Camp.NIGHTS) {
                return true;
            }
            int before = it.restingSince(night, 1);
            int earlier = it.restingSince(night, 2);
            int state = night * SETS + before;
            if ((it.dead[state] >>> earlier & 1L) != 0) {
                return false;
            }
            int busy = it.away[night] | before | earlier;
            int sets = 1 << it.camp.helperCount;
            for (int set = 1; set < sets; set++) {
                if ((set & busy) == 0 && Integer.bitCount(set) == it.many) {
                    it.plan[night] = set;
                    if (fillFrom(it, night + 1)) {
                        return true;
                    }
                }
            }
            it.dead[state] |= 1L << earlier;
            return false;
        }

        /** Who watched so many nights before a night and rests still. */
        private int restingSince(int night, int ago) {
            return ago <= rest && ago <= night ? plan[night - ago] : 0;
        }
    }

    /** Hosts: the best way is told from behind, child by child, over the sets of hosts that have one already. */
    private static final class Giving {
        private static final int SETS = 1 << Camp.HOSTS;
        private static final int GIVEN = 1000;

        private final Camp camp;
        private final int[] best = new int[(Camp.CHILDREN + 1) * SETS];

        Giving(Camp itsCamp) {
            camp = itsCamp;
        }

        int giveAll() {
            int sets = 1 << camp.hostCount;
            int behind = camp.childCount * SETS;
            for (int used = 0; used < sets; used++) {
                best[behind + used] = 0;
            }
            for (int child = camp.childCount - 1; child >= 0; child--) {
                for (int used = 0; used < sets; used++) {
                    best[child * SETS + used] = bestFrom(child, used);
                }
            }
            int used = 0;
            for (int child = 0; child < camp.childCount; child++) {
                int host = firstBest(child, used);
                camp.children[child].host = host;
                used |= host != NONE ? 1 << host : 0;
            }
            return best[0];
        }

        private int bestFrom(int child, int used) {
            int most = best[(child + 1) * SETS + used];
            for (int host = 0; host < camp.hostCount; host++) {
                if ((used >> host & 1) == 0) {
                    most = Math.max(most, worth(child, host, used));
                }
            }
            return most;
        }

        /** What a child with a host, and the best behind it, are worth together. */
        private int worth(int child, int host, int used) {
            int liking = camp.liking[host * Camp.CHILDREN + child];
            return liking == NONE ? NONE : GIVEN + liking + best[(child + 1) * SETS + (used | 1 << host)];
        }

        private int firstBest(int child, int used) {
            for (int host = 0; host < camp.hostCount; host++) {
                if ((used >> host & 1) == 0 && worth(child, host, used) == best[child * SETS + used]) {
                    return host;
                }
            }
            return NONE;
        }
    }

    /** Two ways of teaching, held against one another by all draws. */
    private static final class Holding {
        static final int MOST = 16;

        private static final int HALF = 8;

        int gainOfOne;
        int gainOfNought;
        private final Camp camp;
        private final int[] gain = new int[MOST];
        private final int[] lowSum = new int[1 << HALF];
        private final int[] highSum = new int[1 << HALF];
        private int marked;
        private int ofOne;

        Holding(Camp itsCamp) {
            camp = itsCamp;
        }

        void gather() {
            gainOfOne = 0;
            gainOfNought = 0;
            marked = 0;
            ofOne = 0;
            Arrays.fill(gain, 0);
            for (int i = 0; i < camp.childCount; i++) {
                Child child = camp.children[i];
                if (child.marked && marked < MOST) {
                    gain[marked] = child.gain;
                    marked++;
                    ofOne += child.way;
                    gainOfOne += child.way == 1 ? child.gain : 0;
                    gainOfNought += child.way == 1 ? 0 : child.gain;
                }
            }
        }

        /** All sets of so many of the marked ones. */
        int countSets() {
            int sets = 1;
            for (int i = 1; i <= ofOne; i++) {
                sets = sets * (marked - ofOne + i) / i;
            }
            return sets;
        }

        int countAsGood() {
            sumHalf(lowSum, 0);
            sumHalf(highSum, HALF);
            int good = 0;
            int sets = countSets();
            int set = (1 << ofOne) - 1;
            for (int i = 0; i < sets; i++) {
                if (lowSum[set & 255] + highSum[set >> HALF & 255] >= gainOfOne) {
                    good++;
                }
                set = setAfter(set);
            }
            return good;
        }

        private void sumHalf(int[] sums, int first) {
            sums[0] = 0;
            for (int i = 0; i < HALF; i++) {
                int bit = 1 << i;
                for (int rest = 0; rest < bit; rest++) {
                    sums[bit + rest] = sums[rest] + gain[first + i];
                }
            }
        }

        /** The next greater number with as many bits. */
        private static int setAfter(int set) {
            int lowest = set & -set;
            if (lowest == 0) {
                return 0;
            }
            int carried = set + lowest;
            return (carried ^ set) / lowest >> 2 | carried;
        }
    }
}
