/** Promises 32 and 33: images of all that is told, and going back to them. */
public final class ImagesTest {
    public static void main(String[] args) {
        wrongOnes();
        all();
        several();
        Check.finish("ImagesTest");
    }

    private static void wrongOnes() {
        TongueCamp x = new TongueCamp();
        Check.due("image -1", x.image(-1), false);
        Check.due("image 3", x.image(3), false);
        Check.due("again -1", x.again(-1), false);
        Check.due("again 3", x.again(3), false);
        Check.due("again 0", x.again(0), false);
        Check.due("image 2", x.image(2), true);
        Check.due("again 1", x.again(1), false);
        Check.due("again 2", x.again(2), true);
        Check.due("again 2 again", x.again(2), true);
    }

    private static TongueCamp full() {
        TongueCamp x = Check.camp(Check.row(0, 10, 0), Check.row(1, 14, 1), Check.row(2, 11, 0));
        x.bar(0, 1);
        x.cabin(2);
        x.cabin(1);
        x.lie(0, 0);
        x.lie(1, 0);
        x.task(1, 4, true);
        x.task(2, 1, false);
        x.task(2, 3, true);
        x.groups(2, 1, 2);
        Check.game(x, "if silent:lose 1;gain 2;");
        x.said(1, 3, 9, true, true);
        x.night();
        x.said(0, 5, 7, false, true);
        Check.game(x, "gain x");
        Check.feed(x, "stop;stop;");
        x.helper(1);
        x.helper(0);
        x.watch(2, 1, 0);
        x.host();
        x.host();
        x.like(0, 1, 5);
        x.give();
        x.mark(0, 1, 9, 1);
        x.mark(2, 1, 3, 0);
        return x;
    }

    private static void change(TongueCamp x) {
        x.child(3, 9, true);
        x.bar(1, 2);
        x.cabin(3);
        x.lie(0, -1);
        x.lie(2, 1);
        x.lie(1, 2);
        x.task(0, 5, true);
        x.task(2, 1, false);
        x.task(1, 2, false);
        x.groups(3, 1, 2);
        x.end(5);
        x.game();
        x.said(2, 8, 1, true, false);
        x.said(0, 8, 1, true, false);
        x.night();
        x.said(1, 9, 3, false, false);
        x.helper(3);
        x.watch(3, 1, 1);
        x.host();
        x.like(0, 1, -1);
        x.like(1, 0, 3);
        x.give();
        x.mark(1, 1, 9, 1);
        x.mark(0, 5, 1, 0);
        Check.feed(x, "lose 5;");
    }

    /** What is told, as one text; the calls that it ends with change what they tell of, in the same way each time. */
    private static String told(TongueCamp x) {
        StringBuilder all = new StringBuilder();
        for (int child = 0; child < 5; child++) {
            for (int what = 0; what <= 13; what++) {
                all.append(x.tell(child, what)).append(' ');
            }
            all.append(x.paysSilence(child)).append(x.table(3, 2, child, 1)).append('\n');
        }
        for (int what = 0; what <= 11; what++) {
            all.append(x.count(what)).append(' ');
        }
        for (int i = -1; i <= 3; i++) {
            all.append(x.cost(i)).append(' ').append(x.fault(i)).append(' ').append(x.watcher(i)).append(' ');
            all.append(x.held(i)).append(' ').append(x.met(3, 2, 2, i)).append(' ');
        }
        all.append(x.least()).append(' ').append(x.bar(0, 1)).append(x.bar(1, 2)).append('\n');
        all.append(x.said(1, 6, 2, false, false)).append(' ').append(x.said(0, 9, 2, false, false)).append(' ');
        all.append(x.give()).append(' ').append(x.groups(1, 1, 4)).append(' ').append(x.watch(4, 1, 1)).append(' ');
        all.append(x.feed(0, 0, 0, 0, 0)).append(' ').append(x.end(10)).append(' ').append(x.game()).append(' ');
        all.append(x.fault(0)).append(' ').append(x.better()).append(' ').append(x.cost(-1));
        return all.toString();
    }

    private static void same(String what, String got, String want) {
        Check.due(what + ": " + got + "\n instead of " + want, got.equals(want), true);
    }

    /** Image 0 is of a full camp, image 1 of what it is changed to; it is changed further then. */
    private static TongueCamp twice() {
        TongueCamp x = full();
        Check.due("image 0", x.image(0), true);
        change(x);
        Check.due("image 1", x.image(1), true);
        told(x);
        return x;
    }

    private static void all() {
        String before = told(full());
        TongueCamp x = twice();
        Check.due("again 0", x.again(0), true);
        same("as image 0", told(x), before);
        Check.due("again 0 twice", x.again(0), true);
        same("as image 0 still", told(x), before);
        TongueCamp y = full();
        change(y);
        String after = told(y);
        TongueCamp w = twice();
        w.again(0);
        w.again(1);
        same("as image 1", told(w), after);
        Check.due("they differ", after.equals(before), false);
        TongueCamp z = full();
        z.image(0);
        z.again(0);
        change(z);
        same("an image changes nothing", told(z), after);
    }

    private static void several() {
        TongueCamp x = new TongueCamp();
        x.image(0);
        x.child(0, 10, false);
        x.image(1);
        x.child(0, 10, false);
        x.image(2);
        x.again(0);
        Check.due("none", x.count(0), 0);
        x.again(2);
        Check.due("two", x.count(0), 2);
        x.image(0);
        x.again(1);
        Check.due("one", x.count(0), 1);
        x.again(0);
        Check.due("two now", x.count(0), 2);
        // Numbers that were used otherwise in between are told as the image has them.
        TongueCamp y = new TongueCamp();
        y.image(0);
        y.child(2, 10, true);
        y.cabin(3);
        y.helper(1);
        y.image(1);
        y.again(0);
        y.child(4, 12, false);
        y.cabin(5);
        y.helper(0);
        y.watch(1, 1, 0);
        y.again(1);
        Check.due("tongue", y.tell(0, 0), 2);
        Check.due("age", y.tell(0, 1), 10);
        Check.due("shy", y.tell(0, 2), 1);
        Check.due("beds", y.count(2), 3);
        Check.due("nights of the helper", y.watch(1, 1, 0), -1);
        // What was made behind an image is gone with it: a new child, host or bar begins anew.
        x.host();
        x.like(0, 1, 7);
        x.bar(0, 1);
        x.mark(1, 0, 9, 1);
        x.again(1);
        x.child(1, 10, false);
        x.host();
        Check.due("liking is gone", x.give(), 1000);
        Check.due("bar is gone", x.bar(0, 1), true);
        Check.due("marks are gone", x.held(2), 0);
    }
}
