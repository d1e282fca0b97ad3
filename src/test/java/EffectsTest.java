import java.util.HashSet;
import java.util.List;
import java.util.Set;
import java.util.function.Consumer;

/** Promises 2 to 33: each call changes what it says, and nothing else of all that is told. */
public final class EffectsTest {
    private static final String NOTHING = "";

    public static void main(String[] args) {
        all();
        living();
        playing();
        planning();
        asking();
        Check.finish("EffectsTest");
    }

    /** The camp that the others begin with, worked out by the document's words: what was done last has left all before as it was. */
    private static void all() {
        TongueCamp x = Camps.rich();
        int[][] children = {
            {0, 10, 0, 0, 4, 10, 0, 7, 1, 16, 1, 7, 2, 1}, {0, 14, 1, 0, 0, 5, 0, 3, 0, 12, 1, 0, 0, 0},
            {1, 11, 0, 0, 2, 3, 1, 3, 0, 10, 1, 0, -1, 0}, {2, 17, 1, 1, 0, 0, 0, -1, 0, 18, 0, 4, -1, 1},
            {1, 9, 0, 2, 0, 10, 0, 5, 1, 16, 1, 0, -1, 0}, {3, 12, 0, 2, 0, 10, 0, 5, 1, 16, 1, 0, 1, 0},
            {0, 13, 0, -1, 0, 10, 0, 5, 1, 16, 1, 0, -1, 0}, {4, 8, 1, -1, 0, 10, 0, 5, 1, 16, 1, 0, -1, 0}};
        for (int child = 0; child < 8; child++) {
            for (int what = 0; what <= 13; what++) {
                Check.due("tell(" + child + ", " + what + ")", x.tell(child, what), children[child][what]);
            }
        }
        int[] counts = {8, 3, 9, 3, 3, 1, 9, 4, 3, 6, 120, 4};
        for (int what = 0; what <= 11; what++) {
            Check.due("count(" + what + ")", x.count(what), counts[what]);
        }
        int[] costs = {357 + 12 + 5, 357, 12, 5};
        for (int cabin = -1; cabin <= 2; cabin++) {
            Check.due("cost(" + cabin + ")", x.cost(cabin), costs[cabin + 1]);
        }
        int[] watchers = {2, 1, 2, -1};
        for (int night = 0; night <= 3; night++) {
            Check.due("watcher(" + night + ")", x.watcher(night), watchers[night]);
        }
        Check.due("fault", x.fault(0) * 1000 + x.fault(1), 1005);
        Check.due("end(11)", x.end(11), -1);
        Check.due("end(10)", x.end(10), 10);
    }

    /** Only what is told by the calls of a pattern is told otherwise behind a call; and something of it is. */
    private static void changes(String what, String pattern, Consumer<TongueCamp> call) {
        TongueCamp x = Camps.rich();
        Set<String> before = new HashSet<>(Refused.asIs(x));
        call.accept(x);
        List<String> after = Refused.asIs(x);
        int changed = 0;
        for (String line : after) {
            if (!before.contains(line)) {
                String told = line.substring(0, line.indexOf(" = "));
                Check.due(what + " changes " + line, told.matches(pattern), true);
                changed++;
            }
        }
        Check.due(what + " changes something", changed > 0, !pattern.equals(NOTHING));
        Check.due(what + " leaves no line out", after.size() >= before.size(), true);
    }

    private static void living() {
        changes("child", "count.(0|10).|tell.8, .*", x -> x.child(1, 12, true));
        changes("bar", "count.8.|cost.(0|-1).", x -> x.bar(0, 2));
        changes("cabin", "count.(1|2).|cost.3.", x -> x.cabin(2));
        changes("lie", "count.9.|tell.6, 3.|cost.(1|-1).", x -> x.lie(6, 1));
        changes("lie from cabin to cabin", "tell.0, 3.|cost.(0|1|-1).", x -> x.lie(0, 1));
        changes("lie in none", "count.9.|tell.0, 3.|cost.(0|-1).", x -> x.lie(0, -1));
        changes("house", "count.9.|tell.., 3.|cost.*", TongueCamp::house);
        changes("step", "tell.., 3.|cost.*", TongueCamp::step);
        changes("better", "tell.., 3.|cost.*", TongueCamp::better);
    }

    private static void playing() {
        changes("task passed", "tell.5, [47].", x -> x.task(5, 6, true));
        changes("task failed", "tell.5, [57].", x -> x.task(5, 6, false));
        changes("task of a doubt", "tell.2, [4567].", x -> x.task(2, 10, true));
        changes("groups", "tell.., 8.", x -> x.groups(4, 1, 3));
        changes("feed", NOTHING, x -> x.feed(1, 2, 3, 4, 5));
        changes("end", NOTHING, x -> x.end(3));
        changes("game", "count.7.|fault.*", TongueCamp::game);
        changes("a faulty game", "fault.*", x -> Check.game(x, "#"));
        changes("said", "count.(6|10).|tell.7, (9|10|11|13).", x -> x.said(7, 12, 5, true, false));
        changes("said once more, not own", "tell.3, 11.", x -> x.said(3, 9, 5, false, true));
        changes("night", "count.(5|6|10).|tell.., (9|10|11|13).", TongueCamp::night);
    }

    private static void planning() {
        changes("helper", "count.3.", x -> x.helper(5));
        changes("watch", "watcher.*", x -> x.watch(2, 1, 0));
        changes("host", "count.4.", TongueCamp::host);
        changes("like", NOTHING, x -> x.like(2, 6, 9));
        changes("won't", NOTHING, x -> x.like(0, 0, -1));
        changes("give", "tell.., 12.", x -> {
            x.like(2, 6, 9);
            x.give();
        });
        changes("mark", "count.11.|held.*", x -> x.mark(7, 1, 9, 1));
        changes("mark anew", "held.*", x -> x.mark(0, 1, 9, 0));
        changes("image", NOTHING, x -> x.image(0));
        changes("again", "count.(5|6|10).|tell.*|held.*|fault.*|watcher.*|count.(3|4|11).", x -> x.again(0));
    }

    private static void asking() {
        changes("cost", NOTHING, x -> x.cost(0));
        changes("least", NOTHING, TongueCamp::least);
        changes("fault", NOTHING, x -> x.fault(0));
        changes("paysSilence", NOTHING, x -> x.paysSilence(4));
        changes("tell", NOTHING, x -> x.tell(4, 9));
        changes("watcher", NOTHING, x -> x.watcher(1));
        changes("table", NOTHING, x -> x.table(4, 4, 3, 2));
        changes("met", NOTHING, x -> x.met(4, 4, 3, 2));
        changes("held", NOTHING, x -> x.held(0));
        changes("count", NOTHING, x -> x.count(10));
    }
}
