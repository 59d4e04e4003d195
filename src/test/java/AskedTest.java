import java.util.function.Supplier;
import java.util.function.ToLongFunction;

/** "In mind": what is asked changes nothing, be the yard some, full or empty; nor does an image that is taken. */
public final class AskedTest {
    private static final Check CHECK = new Check("AskedTest");

    public static void main(String[] args) {
        some();
        full();
        nobody();
        asWellTwice();
        wholeRun();
        CHECK.end();
    }

    private static void asked(Supplier<TouchedAndStands> state, String what, ToLongFunction<TouchedAndStands> call) {
        TouchedAndStands x = state.get();
        TouchedAndStands twin = state.get();
        long first = call.applyAsLong(x);
        CHECK.due(what + " asked again", call.applyAsLong(x), first);
        for (int counted = 11; counted <= 16; counted++) {
            CHECK.due(what + " is not refused, " + counted, x.count(counted), twin.count(counted));
        }
        CHECK.same(what + " changes nothing", Look.all(x), Look.all(twin));
    }

    private static void ofTheYard(Supplier<TouchedAndStands> state) {
        asked(state, "far(23, 0)", x -> x.far(23, 0));
        for (int n : new int[] {0, 1, 59, 60}) {
            asked(state, "stand(" + n + ")", x -> x.stand(n));
            asked(state, "mean(" + n + ", 0)", x -> x.mean(n, 0));
            asked(state, "mean(" + n + ", 1)", x -> x.mean(n, 1));
            asked(state, "frees(" + n + ")", x -> x.frees(n));
            asked(state, "never(" + n + ")", x -> x.never(n));
        }
        for (int n : new int[] {1, 20}) {
            asked(state, "lots(" + n + ", 7)", x -> x.lots(n, 7));
        }
        for (int what = 0; what <= 16; what++) {
            int asked = what;
            asked(state, "count(" + what + ")", x -> x.count(asked));
        }
    }

    private static void ofPlayers(Supplier<TouchedAndStands> state) {
        asked(state, "over()", x -> x.over());
        asked(state, "enough()", x -> x.enough());
        asked(state, "longest()", x -> x.longest());
    }

    private static void of(Supplier<TouchedAndStands> state, int child) {
        for (int what = 0; what <= 4; what++) {
            int part = what;
            asked(state, "child(" + child + ", " + what + ")", x -> x.child(child, part));
        }
        for (int n : new int[] {0, 1, 60}) {
            asked(state, "where(" + child + ", " + n + ")", x -> x.where(child, n));
        }
        asked(state, "mayFree(" + child + ")", x -> x.mayFree(child));
        asked(state, "fits(" + child + ")", x -> x.fits(child));
        asked(state, "owes(" + child + ", 0)", x -> x.owes(child, 0));
        asked(state, "debt(" + child + ")", x -> x.debt(child));
    }

    private static void some() {
        Supplier<TouchedAndStands> state = States::some;
        ofTheYard(state);
        ofPlayers(state);
        for (int child = 0; child < 4; child++) {
            of(state, child);
        }
        for (int child : new int[] {0, 1, 3}) {
            asked(state, "worth(" + child + ")", x -> x.worth(child));
            for (int what = 0; what <= 1; what++) {
                int part = what;
                asked(state, "change(2, " + child + ", " + what + ")", x -> x.change(2, child, part));
                asked(state, "hunt(2, 60, " + what + ")", x -> x.hunt(2, 60, part));
            }
        }
        asked(state, "why(3, 1)", x -> x.why(3, 1));
        asked(state, "why(3, 60)", x -> x.why(3, 60));
        TouchedAndStands x = States.some();
        String before = Look.open(x);
        CHECK.due("image()", x.image(), 6);
        CHECK.same("image() changes nothing but the image", Look.open(x), before);
    }

    private static void full() {
        Supplier<TouchedAndStands> state = States::full;
        ofTheYard(state);
        ofPlayers(state);
        of(state, 0);
        of(state, 7);
        asked(state, "worth(3)", x -> x.worth(3));
        asked(state, "hunt(7, 60, 1)", x -> x.hunt(7, 60, 1));
        asked(state, "change(7, 0, 1)", x -> x.change(7, 0, 1));
        asked(state, "why(2, 60)", x -> x.why(2, 60));
    }

    /** An image of nobody is taken first, that the look has one to go on from. */
    private static void nobody() {
        ofTheYard(() -> {
            TouchedAndStands x = States.nobody();
            x.image();
            return x;
        });
    }

    /** change() and worth() think in several minds: none of them is left behind in the next question. */
    private static void asWellTwice() {
        TouchedAndStands x = States.some();
        TouchedAndStands twin = States.some();
        x.change(2, 0, 0);
        x.worth(0);
        x.hunt(2, 60, 0);
        x.enough();
        x.longest();
        x.lots(20, 1);
        x.fits(0);
        CHECK.due("stand(60)", x.stand(60), twin.stand(60));
        CHECK.due("frees(60)", x.frees(60), twin.frees(60));
        CHECK.due("worth(1)", x.worth(1), twin.worth(1));
        CHECK.due("change(2, 1, 1)", x.change(2, 1, 1), twin.change(2, 1, 1));
        x.worth(0);
        x.seconds(60);
        twin.seconds(60);
        CHECK.same("seconds go by as ever", Look.all(x), Look.all(twin));
    }

    /** An object is used for 512 calls: the last of them answers as the first, by the dearest questions too. */
    private static void wholeRun() {
        TouchedAndStands x = new TouchedAndStands();
        int calls = 0;
        for (char c : "kf000;kr031;kc230;kr120;t1;t3;".toCharArray()) {
            x.letter(c);
            calls++;
        }
        x.yard();
        calls++;
        int fits = x.fits(0);
        int lots = x.lots(20, -1);
        int change = x.change(2, 0, 0);
        for (calls += 3; calls + 3 <= 511; calls += 3) {
            CHECK.due("fits behind " + calls + " calls", x.fits(0), fits);
            CHECK.due("lots behind " + calls + " calls", x.lots(20, -1), lots);
            CHECK.due("change behind " + calls + " calls", x.change(2, 0, 0), change);
        }
        for (; calls < 511; calls++) {
            x.letter(-1);
        }
        CHECK.due("the 512th call", x.stand(0), 10);
    }
}
