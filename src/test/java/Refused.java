import java.util.ArrayList;
import java.util.List;
import java.util.function.Predicate;
import java.util.function.Supplier;
import java.util.function.ToIntFunction;

/**
 * Calls by which nothing of the camp may change, those that are refused above all: the camp is held against one made
 * by the same calls without this one, by all that both tell and by what further calls do to both.
 */
final class Refused {
    /** Of more children than so many only some things are told: an object is used for 512 calls at most. */
    private static final int FEW = 9;
    private static final int[] SOME = {3, 5, 9, 11};
    private static final int BLANKS = 0x20202020;

    private final TongueCamp x;
    private final List<String> lines = new ArrayList<>();

    private Refused(TongueCamp camp) {
        x = camp;
    }

    static void none(String what, Supplier<TongueCamp> made, ToIntFunction<TongueCamp> call) {
        answers(what, -1, made, call);
    }

    static void no(String what, Supplier<TongueCamp> made, Predicate<TongueCamp> call) {
        answers(what, 0, made, x -> call.test(x) ? 1 : 0);
    }

    static void answers(String what, int due, Supplier<TongueCamp> made, ToIntFunction<TongueCamp> call) {
        TongueCamp with = made.get();
        Check.due(what, call.applyAsInt(with), due);
        List<String> got = new Refused(with).told();
        List<String> want = new Refused(made.get()).told();
        int at = 0;
        while (at < got.size() - 1 && at < want.size() - 1 && got.get(at).equals(want.get(at))) {
            at++;
        }
        Check.due("nothing changes by " + what + ": " + got.get(at) + " instead of " + want.get(at),
            got.equals(want), true);
    }

    /** All that is told without a change, line by line: a call and its answer. */
    static List<String> asIs(TongueCamp camp) {
        Refused teller = new Refused(camp);
        teller.asIs();
        return teller.lines;
    }

    private List<String> told() {
        asIs();
        playing();
        tape();
        plans();
        beds();
        day();
        images();
        return lines;
    }

    private void say(String call, long answer) {
        lines.add(call + " = " + answer);
    }

    private void say(String call, boolean answer) {
        say(call, answer ? 1 : 0);
    }

    private void ofEach(String behind, int what) {
        int children = x.count(0);
        for (int i = 0; i < children; i++) {
            say("tell(" + i + ", " + what + ") behind " + behind, x.tell(i, what));
        }
    }

    private void asIs() {
        for (int what = 0; what <= 11; what++) {
            say("count(" + what + ")", x.count(what));
        }
        int children = x.count(0);
        for (int i = 0; i < children; i++) {
            for (int what = 0; what <= 13 && children <= FEW; what++) {
                say("tell(" + i + ", " + what + ")", x.tell(i, what));
            }
            for (int what : SOME) {
                if (children > FEW) {
                    say("tell(" + i + ", " + what + ")", x.tell(i, what));
                }
            }
        }
        int cabins = x.count(1);
        for (int cabin = -1; cabin < cabins; cabin++) {
            say("cost(" + cabin + ")", x.cost(cabin));
        }
        for (int what = 0; what <= 3; what++) {
            say("held(" + what + ")", x.held(what));
        }
        say("fault(0)", x.fault(0));
        say("fault(1)", x.fault(1));
        for (int night = 0; night <= 13; night++) {
            say("watcher(" + night + ")", x.watcher(night));
        }
    }

    private void playing() {
        int children = Math.min(FEW, x.count(0));
        int hour = x.count(6);
        for (int i = 0; i < children; i++) {
            say("paysSilence(" + i + ")", x.paysSilence(i));
        }
        for (int i = 1; i < children; i += 2) {
            say("said(" + i + ", " + hour + ")", x.said(i, hour, 5, i % 4 == 1, false));
        }
    }

    /** How long the tape is, and what is on it. */
    private void tape() {
        int all = x.feed(BLANKS, BLANKS, BLANKS, BLANKS, BLANKS);
        say("feed", all);
        if (all == -1) {
            for (int n = 500; n > 480 && all == -1; n--) {
                all = x.end(n);
                say("end(" + n + ")", all);
            }
        }
        say("game()", x.game());
        say("fault(0) of the tape", x.fault(0));
        say("fault(1) of the tape", x.fault(1));
        int children = Math.min(3, x.count(0));
        for (int i = 0; i < children; i++) {
            say("said(" + i + ") by the tape's game", x.said(i, 23, 4, true, true));
        }
    }

    private void plans() {
        say("give()", x.give());
        ofEach("give()", 12);
        say("host()", x.host());
        say("give() with a host more", x.give());
        for (int rest = 0; rest <= 1; rest++) {
            say("watch(6, 1, " + rest + ")", x.watch(6, 1, rest));
            for (int night = 0; night < 6; night++) {
                say("watcher(" + night + ") then", x.watcher(night));
            }
        }
        say("helper(8)", x.helper(8));
        say("watch(14, 1, 0)", x.watch(14, 1, 0));
        say("groups(2, 1, 23)", x.groups(2, 1, 23));
        ofEach("groups()", 8);
    }

    private void beds() {
        say("step()", x.step());
        ofEach("step()", 3);
        say("cabin(8)", x.cabin(8));
        say("house()", x.house());
        ofEach("house()", 3);
        say("bar(0, 1)", x.bar(0, 1));
        say("better()", x.better());
        say("cost then", x.cost(-1));
    }

    private void day() {
        say("night()", x.night());
        say("tokens behind it", x.count(10));
        say("child()", x.child(5, 17, true));
        say("mark()", x.mark(0, 0, 100, 1));
        say("held(0) then", x.held(0));
    }

    private void images() {
        for (int k = 0; k <= 2; k++) {
            say("again(" + k + ")", x.again(k));
            for (int what = 0; what <= 11; what++) {
                say("count(" + what + ") of image " + k, x.count(what));
            }
            say("cost of image " + k, x.cost(-1));
            int children = Math.min(3, x.count(0));
            for (int i = 0; i < children; i++) {
                say("tell(" + i + ", 9) of image " + k, x.tell(i, 9));
            }
        }
    }
}
