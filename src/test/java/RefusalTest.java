import java.util.function.Supplier;
import java.util.function.ToLongFunction;

/**
 * REFUSALS, promise by promise: the first that is refused on both sides, the order in which a promise tells them
 * (a call that deserves several answers the first), and that a refused call leaves all but its own count.
 */
public final class RefusalTest {
    private static final Check CHECK = new Check("RefusalTest");
    private static final int MIN = Integer.MIN_VALUE;
    private static final int MAX = Integer.MAX_VALUE;
    private static final int[] NO_CHILD = {-1, 4, 7, 8, MIN, MAX};
    private static final int[] NO_CELL = {-1, 24, MIN, MAX};
    private static final int[] NO_PART = {-1, 2, MIN, MAX};
    private static final int[] BELOW_0 = {-1, -60, MIN};
    private static final int[] BELOW_1 = {0, -1, MIN};
    private static final int[] ABOVE_60 = {61, 999, 1000, MAX};

    private static Supplier<TouchedAndStands> state = States::some;

    public static void main(String[] args) {
        letter();
        child();
        goTouchLawFar();
        seconds();
        standFreesNever();
        where();
        overEnoughLongest();
        mean();
        mayFreeFitsOwesDebt();
        worth();
        hunt();
        change();
        why();
        row();
        lots();
        on();
        noRefusals();
        eachRefusalIsCounted();
        CHECK.end();
    }

    /** The call answers what is due, is counted once under its reason, and leaves all else as a twin's. */
    private static void refused(String what, ToLongFunction<TouchedAndStands> call, int reason) {
        refused(what, call, reason, reason);
    }

    private static void refused(String what, ToLongFunction<TouchedAndStands> call, int reason, long answer) {
        TouchedAndStands x = state.get();
        TouchedAndStands twin = state.get();
        CHECK.due(what, call.applyAsLong(x), answer);
        for (int counted = 1; counted <= 6; counted++) {
            int more = x.count(10 + counted) - twin.count(10 + counted);
            CHECK.due(what + ": more refusals -" + counted, more, -reason == counted ? 1 : 0);
        }
        CHECK.same(what + " leaves all as it was", Look.all(x), Look.all(twin));
    }

    private static void letter() {
        for (int c : BELOW_0) {
            refused("letter(" + c + ")", x -> x.letter(c), -4);
        }
        for (int c : new int[] {256, 257, MAX}) {
            refused("letter(" + c + ")", x -> x.letter(c), -6);
        }
        state = States::full;
        refused("a 97th letter", x -> x.letter(';'), -6);
        refused("a 97th letter, the least", x -> x.letter(0), -6);
        refused("a 97th letter, the greatest", x -> x.letter(255), -6);
        refused("a 97th letter below: -4 is told ahead", x -> x.letter(-1), -4);
        refused("a 97th letter above", x -> x.letter(256), -6);
        state = States::some;
    }

    private static void child() {
        for (int child : NO_CHILD) {
            refused("child(" + child + ", 0)", x -> x.child(child, 0), -1);
            refused("child(" + child + ", 5): -1 is told ahead", x -> x.child(child, 5), -1);
        }
        for (int what : new int[] {-1, 5, MIN, MAX}) {
            refused("child(0, " + what + ")", x -> x.child(0, what), -2);
            refused("child(3, " + what + ")", x -> x.child(3, what), -2);
        }
    }

    private static void goTouchLawFar() {
        for (int child : NO_CHILD) {
            refused("go(" + child + ", 0)", x -> x.go(child, 0), -1);
            refused("go(" + child + ", 24)", x -> x.go(child, 24), -1);
            refused("touch(" + child + ")", x -> x.touch(child), -1);
        }
        for (int cell : NO_CELL) {
            refused("go(0, " + cell + ")", x -> x.go(0, cell), -1);
            refused("go(2, " + cell + ")", x -> x.go(2, cell), -1);
            refused("far(" + cell + ", 0)", x -> x.far(cell, 0), -1);
            refused("far(23, " + cell + ")", x -> x.far(23, cell), -1);
            refused("far of two that are none", x -> x.far(cell, cell), -1);
        }
        refused("touch of a catcher", x -> x.touch(2), -3);
        for (int v : new int[] {-1, 4, MIN, MAX}) {
            refused("law(" + v + ")", x -> x.law(v), -2);
        }
    }

    private static void seconds() {
        for (int n : BELOW_1) {
            refused("seconds(" + n + ")", x -> x.seconds(n), -4);
        }
        for (int n : ABOVE_60) {
            refused("seconds(" + n + ")", x -> x.seconds(n), -6);
        }
        state = States::full;
        refused("to the second 1000", x -> x.seconds(1), -6);
        refused("to the second 1059", x -> x.seconds(60), -6);
        refused("seconds(61) at 999", x -> x.seconds(61), -6);
        refused("seconds(0) at 999: -4 is told ahead", x -> x.seconds(0), -4);
        refused("seconds(-1) at 999", x -> x.seconds(-1), -4);
        refused("so many that SECOND would wrap around", x -> x.seconds(MAX), -6);
        state = States::some;
    }

    private static void standFreesNever() {
        for (int n : BELOW_0) {
            refused("stand(" + n + ")", x -> x.stand(n), -4);
            refused("frees(" + n + ")", x -> x.frees(n), -4);
            refused("never(" + n + ")", x -> x.never(n), -4);
        }
        for (int n : ABOVE_60) {
            refused("stand(" + n + ")", x -> x.stand(n), -6);
            refused("frees(" + n + ")", x -> x.frees(n), -6);
            refused("never(" + n + ")", x -> x.never(n), -6);
        }
    }

    private static void where() {
        for (int child : NO_CHILD) {
            refused("where(" + child + ", 0)", x -> x.where(child, 0), -1);
            refused("where(" + child + ", -1): -1 is told ahead", x -> x.where(child, -1), -1);
            refused("where(" + child + ", 61): -1 is told ahead", x -> x.where(child, 61), -1);
        }
        for (int n : BELOW_0) {
            refused("where(0, " + n + ")", x -> x.where(0, n), -4);
        }
        for (int n : ABOVE_60) {
            refused("where(3, " + n + ")", x -> x.where(3, n), -6);
        }
    }

    private static void overEnoughLongest() {
        state = States::nobody;
        refused("over() of nobody", x -> x.over(), -3);
        refused("enough() of nobody", x -> x.enough(), -3);
        refused("longest() of nobody", x -> x.longest(), -3);
        state = States::catchers;
        refused("over() of catchers", x -> x.over(), -3);
        refused("enough() of catchers", x -> x.enough(), -3);
        refused("longest() of catchers", x -> x.longest(), -3);
        state = States::some;
    }

    private static void mean() {
        long least = 4000000000000000000L;
        for (int n : BELOW_0) {
            refused("mean(" + n + ", 0)", x -> x.mean(n, 0), -4, least + 4);
            refused("mean(" + n + ", 2): -4 is told ahead", x -> x.mean(n, 2), -4, least + 4);
        }
        for (int n : ABOVE_60) {
            refused("mean(" + n + ", 1)", x -> x.mean(n, 1), -6, least + 6);
            refused("mean(" + n + ", -1): -6 is told ahead", x -> x.mean(n, -1), -6, least + 6);
        }
        for (int part : NO_PART) {
            refused("mean(0, " + part + ")", x -> x.mean(0, part), -2, least + 2);
            refused("mean(60, " + part + ")", x -> x.mean(60, part), -2, least + 2);
        }
    }

    private static void mayFreeFitsOwesDebt() {
        for (int child : NO_CHILD) {
            refused("mayFree(" + child + ")", x -> x.mayFree(child), -1);
            refused("fits(" + child + ")", x -> x.fits(child), -1);
            refused("owes(" + child + ", 0)", x -> x.owes(child, 0), -1);
            refused("owes(3, " + child + ")", x -> x.owes(3, child), -1);
            refused("owes of two who are not there", x -> x.owes(child, child), -1);
            refused("debt(" + child + ")", x -> x.debt(child), -1, 1000000001L);
        }
    }

    private static void worth() {
        for (int child : NO_CHILD) {
            refused("worth(" + child + ")", x -> x.worth(child), -1, 1000000001L);
        }
        refused("worth of a catcher", x -> x.worth(2), -3, 1000000003L);
    }

    private static void hunt() {
        for (int child : NO_CHILD) {
            refused("hunt(" + child + ", 1, 0)", x -> x.hunt(child, 1, 0), -1);
            refused("hunt(" + child + ", 0, 2): -1 is told ahead", x -> x.hunt(child, 0, 2), -1);
        }
        for (int child : new int[] {0, 1, 3}) {
            refused("hunt(" + child + ", 1, 0)", x -> x.hunt(child, 1, 0), -3);
            refused("hunt(" + child + ", 0, 2): -3 is told ahead", x -> x.hunt(child, 0, 2), -3);
            refused("hunt(" + child + ", 61, 2): -3 is told ahead", x -> x.hunt(child, 61, 2), -3);
        }
        for (int n : BELOW_1) {
            refused("hunt(2, " + n + ", 0)", x -> x.hunt(2, n, 0), -4);
            refused("hunt(2, " + n + ", 2): -4 is told ahead", x -> x.hunt(2, n, 2), -4);
        }
        for (int n : ABOVE_60) {
            refused("hunt(2, " + n + ", 1)", x -> x.hunt(2, n, 1), -6);
            refused("hunt(2, " + n + ", -1): -6 is told ahead", x -> x.hunt(2, n, -1), -6);
        }
        for (int what : NO_PART) {
            refused("hunt(2, 1, " + what + ")", x -> x.hunt(2, 1, what), -2);
            refused("hunt(2, 60, " + what + ")", x -> x.hunt(2, 60, what), -2);
        }
    }

    private static void change() {
        for (int child : NO_CHILD) {
            refused("change(" + child + ", 0, 0)", x -> x.change(child, 0, 0), -1);
            refused("change(2, " + child + ", 0)", x -> x.change(2, child, 0), -1);
            refused("change(" + child + ", 2, 2): -1 is told ahead", x -> x.change(child, 2, 2), -1);
            refused("change(0, " + child + ", 2): -1 is told ahead", x -> x.change(0, child, 2), -1);
            refused("change of two who are not there", x -> x.change(child, child, 2), -1);
        }
        refused("two who are no catchers", x -> x.change(0, 1, 0), -3);
        refused("the wrong way round", x -> x.change(0, 2, 0), -3);
        refused("a catcher and himself", x -> x.change(2, 2, 0), -3);
        refused("one who is none and himself", x -> x.change(0, 0, 0), -3);
        refused("the wrong way round: -3 is told ahead", x -> x.change(0, 2, 2), -3);
        for (int what : NO_PART) {
            refused("change(2, 0, " + what + ")", x -> x.change(2, 0, what), -2);
            refused("change(2, 3, " + what + ")", x -> x.change(2, 3, what), -2);
        }
        state = States::catchers;
        refused("two catchers", x -> x.change(0, 1, 0), -3);
        refused("two catchers: -3 is told ahead", x -> x.change(1, 0, -1), -3);
        state = States::some;
    }

    private static void why() {
        for (int child : NO_CHILD) {
            refused("why(" + child + ", 1)", x -> x.why(child, 1), -1);
            refused("why(" + child + ", 0): -1 is told ahead", x -> x.why(child, 0), -1);
        }
        refused("who runs", x -> x.why(0, 1), -3);
        refused("who runs: -3 is told ahead of -4", x -> x.why(0, 0), -3);
        refused("who runs: -3 is told ahead of -6", x -> x.why(0, 61), -3);
        refused("a catcher", x -> x.why(2, 60), -3);
        for (int n : BELOW_1) {
            refused("why(3, " + n + ")", x -> x.why(3, n), -4);
        }
        for (int n : ABOVE_60) {
            refused("why(3, " + n + ")", x -> x.why(3, n), -6);
        }
    }

    private static void row() {
        for (int v : BELOW_0) {
            refused("row(" + v + ")", x -> x.row(v), -4);
        }
        for (int v : new int[] {9, 10, MAX}) {
            refused("row(" + v + ")", x -> x.row(v), -6);
        }
        state = States::full;
        refused("a 21st number, the least", x -> x.row(0), -6);
        refused("a 21st number, the greatest", x -> x.row(8), -6);
        refused("a 21st number above", x -> x.row(9), -6);
        refused("a 21st number below: -4 is told ahead", x -> x.row(-1), -4);
        state = States::some;
    }

    private static void lots() {
        for (int n : BELOW_1) {
            refused("lots(" + n + ", 0)", x -> x.lots(n, 0), -4);
            refused("lots(" + n + ", MIN)", x -> x.lots(n, MIN), -4);
        }
        for (int n : new int[] {21, 22, 60, MAX}) {
            refused("lots(" + n + ", 0)", x -> x.lots(n, 0), -6);
        }
    }

    private static void on() {
        state = States::nobody;
        refused("on() of a new object", x -> x.on(), -3);
        state = States::catchers;
        refused("on() without an image", x -> x.on(), -3);
        state = States::some;
    }

    /** FAULTS, -9 and another what of count are answers, no refusals. */
    private static void noRefusals() {
        TouchedAndStands x = States.some();
        x.judge();
        TouchedAndStands twin = States.some();
        twin.judge();
        for (int what : new int[] {-1, 9, 10, 17, 18, 100, MIN, MAX}) {
            CHECK.due("count(" + what + ")", x.count(what), -9);
        }
        CHECK.due("mayFree of a runner", x.mayFree(1), -9);
        CHECK.due("judge of none", x.judge(), -9);
        CHECK.due("a fault", x.yard(), -1002);
        CHECK.due("a fault of a statement", Check.tell(x, "t9;"), -2000);
        twin.yard();
        for (int counted = 11; counted <= 16; counted++) {
            CHECK.due("no refusal " + counted, x.count(counted), twin.count(counted));
        }
        CHECK.same("all is as it was", Look.all(x), Look.all(twin));
    }

    /** -5 is told by no call; a refusal in mind of none counts once, however often it was asked before. */
    private static void eachRefusalIsCounted() {
        TouchedAndStands x = States.some();
        int[] due = new int[7];
        for (int i = 1; i <= 40; i++) {
            due[1] += x.child(9, 9) == -1 ? 1 : 0;
            due[2] += x.law(9) == -2 ? 1 : 0;
            due[3] += x.touch(2) == -3 ? 1 : 0;
            due[4] += x.stand(-1) == -4 ? 1 : 0;
            due[6] += x.row(9) == -6 ? 1 : 0;
            for (int counted = 1; counted <= 6; counted++) {
                CHECK.due("refusals -" + counted, x.count(10 + counted), counted == 5 ? 0 : i);
            }
        }
        CHECK.due("each was refused", due[1] + due[2] + due[3] + due[4] + due[6], 200);
    }
}
