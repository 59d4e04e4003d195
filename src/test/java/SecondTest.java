/** Promises 9, 22, 23, 29 to 31: seconds, kind by kind and law by law, debts, the image, counts. */
public final class SecondTest {
    private static final Check CHECK = new Check("SecondTest");

    public static void main(String[] args) {
        limits();
        runnerTires();
        runnerAwayFromAll();
        freer();
        freerBesideCatcher();
        pal();
        hedger();
        catcher();
        guardAndWaiter();
        busy();
        safeEdge();
        freesAll();
        eachTenth();
        freedMost();
        image();
        counts();
        CHECK.end();
    }

    private static void limits() {
        TouchedAndStands x = new TouchedAndStands();
        CHECK.due("seconds(0)", x.seconds(0), -4);
        CHECK.due("seconds(-5)", x.seconds(-5), -4);
        CHECK.due("seconds(61)", x.seconds(61), -6);
        CHECK.due("seconds(60)", x.seconds(60), 60);
        for (int i = 2; i <= 16; i++) {
            CHECK.due("seconds(60)", x.seconds(60), 60 * i);
        }
        CHECK.due("seconds(40) to 1000", x.seconds(40), -6);
        CHECK.due("SECOND stays", x.count(3), 960);
        CHECK.due("seconds(39) to 999", x.seconds(39), 999);
        CHECK.due("seconds(1) to 1000", x.seconds(1), -6);
        CHECK.due("in mind it may go on", x.stand(60), 0);
    }

    /** The two go round until he rests: behind 10 seconds he has, and the catcher is one cell nearer. */
    private static void runnerTires() {
        TouchedAndStands x = Check.told("kr080;kc060;");
        int[] his = {8, 2, 8, 2, 8, 2, 8, 2, 8, 2, 2, 8, 2};
        int[] catchers = {6, 0, 6, 0, 6, 0, 6, 0, 6, 0, 1, 7, 1};
        for (int n = 0; n < his.length; n++) {
            CHECK.due("runner: where(0, " + n + ")", x.where(0, n), his[n]);
            CHECK.due("runner: where(1, " + n + ")", x.where(1, n), catchers[n]);
        }
        CHECK.due("over when he rests again", x.over(), 20);
        CHECK.due("seconds(9)", x.seconds(9), 9);
        CHECK.due("tired", x.child(0, 4), 9);
        x.seconds(1);
        CHECK.due("rested", x.child(0, 4), 0);
        x.seconds(9);
        CHECK.due("tired again", x.child(0, 4), 9);
        x.seconds(1);
        CHECK.due("touched as he rests", x.child(0, 3), 1);
        CHECK.due("catchers never tire", x.child(1, 4), 0);
        TouchedAndStands caught = Check.told("kr000;kc000;");
        caught.seconds(1);
        CHECK.due("touched behind his step", caught.child(0, 3), 1);
        CHECK.due("that step tired him", caught.child(0, 4), 1);
        caught.seconds(1);
        CHECK.due("who stands rests", caught.child(0, 4), 0);
    }

    private static void runnerAwayFromAll() {
        CHECK.due("nobody to run from", Check.told("kr080;").where(0, 9), 8);
        CHECK.due("the nearest of each cell counts", Check.told("kr080;kc060;kc110;").where(0, 1), 2);
        CHECK.due("down, where up is worse", Check.told("kr080;kc010;").where(0, 1), 14);
        CHECK.due("left, where others are worse", Check.told("kr070;kc100;kc010;kc190;").where(0, 1), 6);
        CHECK.due("stays, where all are worse", Check.told("kr000;kc070;").where(0, 1), 0);
    }

    private static void freer() {
        TouchedAndStands x = Check.told("kf000;kr031;kc230;t1;");
        CHECK.due("freer goes", x.where(0, 2), 2);
        CHECK.due("frees(2)", x.frees(2), 0);
        CHECK.due("frees(3)", x.frees(3), 1);
        CHECK.due("freed goes at once", x.where(1, 3), 2);
        CHECK.due("the catcher is after the least", x.where(2, 3), 5);
        CHECK.due("in mind nothing is owed", x.owes(1, 0), 0);
        x.seconds(3);
        CHECK.due("who frees stays", x.child(0, 4), 1);
        CHECK.due("owes(1, 0)", x.owes(1, 0), 1);
        CHECK.due("owes(0, 1)", x.owes(0, 1), 0);
        CHECK.due("debt(0)", x.debt(0), 1);
        CHECK.due("debt(1)", x.debt(1), -1);
        CHECK.due("debt(3)", x.debt(3), 1000000001);
        CHECK.due("debt(-1)", x.debt(-1), 1000000001);
        CHECK.due("owes(3, 0)", x.owes(3, 0), -1);
        CHECK.due("owes(0, 3)", x.owes(0, 3), -1);
        CHECK.due("all freed", x.count(6), 1);
        TouchedAndStands two = Check.told("kf070;kr080;kr070;t1;t2;");
        CHECK.due("the least in reach, not the nearest", two.stand(1), 4);
        TouchedAndStands far = Check.told("kf070;kr110;kr090;t1;t2;");
        CHECK.due("toward the nearest", far.where(0, 1), 8);
        TouchedAndStands alike = Check.told("kf080;kr060;kr100;t1;t2;");
        CHECK.due("of several the least", alike.where(0, 1), 7);
    }

    /** A catcher in 1 keeps him from going, but not from freeing. */
    private static void freerBesideCatcher() {
        TouchedAndStands x = Check.told("kf080;kr110;kc070;t1;");
        CHECK.due("as a runner", x.where(0, 1), 2);
        TouchedAndStands beside = Check.told("kf080;kr090;kb070;t1;");
        CHECK.due("frees all the same", beside.frees(1), 1);
        TouchedAndStands two = Check.told("kf080;kr110;kc060;t1;");
        CHECK.due("a catcher in 2 is no matter", two.where(0, 1), 9);
    }

    private static void pal() {
        TouchedAndStands x = Check.told("kp071;kr100;kr080;t1;t2;");
        CHECK.due("not the other", x.frees(1), 0);
        CHECK.due("goes to his friend", x.where(0, 1), 8);
        CHECK.due("frees him", x.stand(3), 4);
        CHECK.due("a friend who is not there", Check.told("kp077;kr080;t1;").where(0, 5), 7);
    }

    private static void hedger() {
        CHECK.due("at an edge he stays", Check.told("kh020;kc140;").where(0, 1), 2);
        CHECK.due("unless a catcher is near", Check.told("kh020;kc080;").where(0, 1), 1);
        CHECK.due("elsewhere a runner", Check.told("kh080;kc140;").where(0, 1), 2);
        CHECK.due("column 5 is an edge", Check.told("kh110;kc090;").where(0, 1), 11);
        CHECK.due("row 3 is an edge", Check.told("kh200;kc080;").where(0, 1), 20);
        CHECK.due("column 0 is an edge", Check.told("kh060;kc080;").where(0, 1), 6);
    }

    private static void catcher() {
        CHECK.due("touches the least in reach", Check.told("kc070;kr080;kr070;").stand(1), 2);
        CHECK.due("one in a second", Check.told("kc000;kr000;kr000;").stand(1), 2);
        CHECK.due("toward the nearest", Check.told("kc000;kr230;kr030;").where(0, 1), 1);
        CHECK.due("of several the least", Check.told("kc080;kr100;kr060;").where(0, 1), 9);
        CHECK.due("stays if nobody runs", Check.told("kc000;kr230;t1;").where(0, 9), 0);
        CHECK.due("up ahead of left", Check.told("kc230;kr000;").where(0, 1), 17);
        CHECK.due("touches before the other goes", Check.told("kc000;kr010;").over(), 1);
        CHECK.due("who is ahead gets away", Check.told("kr010;kc000;").stand(1), 0);
    }

    private static void guardAndWaiter() {
        String rest = "000;kr020;kr230;t1;";
        CHECK.due("guard goes to him", Check.told("kg" + rest).where(0, 1), 1);
        CHECK.due("and stays there", Check.told("kg" + rest).where(0, 5), 1);
        CHECK.due("waiter stays", Check.told("kw" + rest).where(0, 5), 0);
        CHECK.due("catcher goes", Check.told("kc" + rest).where(0, 1), 6);
        CHECK.due("guard as a catcher", Check.told("kg000;kr230;").where(0, 1), 6);
        CHECK.due("waiter as a catcher", Check.told("kw000;kr230;").where(0, 1), 6);
        CHECK.due("guard touches first", Check.told("kg000;kr030;kr010;t1;").stand(1), 6);
        CHECK.due("waiter touches first", Check.told("kw000;kr030;kr010;t1;").stand(1), 6);
    }

    private static void busy() {
        TouchedAndStands x = Check.told("kb000;kr010;");
        CHECK.due("nothing in 0", x.where(0, 1), 0);
        CHECK.due("no touch in 0", x.stand(1), 0);
        CHECK.due("a step in 1", x.where(0, 2), 6);
        TouchedAndStands y = Check.told("kb000;kr230;");
        int[] at = {0, 0, 6, 12, 12, 18, 12, 12};
        for (int n = 0; n < at.length; n++) {
            CHECK.due("busy: where(0, " + n + ")", y.where(0, n), at[n]);
        }
    }

    private static void safeEdge() {
        TouchedAndStands x = Check.told("kc070;kr010;l1;");
        CHECK.due("no touch at an edge", x.stand(1), 0);
        CHECK.due("but a step toward him", x.where(0, 1), 1);
        CHECK.due("touched off the edge", x.stand(2), 2);
        CHECK.due("another one who is not safe", Check.told("kc070;kr010;kr080;l1;").stand(1), 4);
    }

    private static void freesAll() {
        String yard = "kf070;kr010;kr080;kr070;kr090;t1;t2;t3;t4;";
        CHECK.due("one by law 0", Check.told(yard).stand(1), 28);
        CHECK.due("all in 1 by law 2", Check.told(yard + "l2;").stand(1), 16);
        CHECK.due("each counts", Check.told(yard + "l2;").frees(1), 3);
        TouchedAndStands x = Check.told("kp071;kr010;kr080;kr090;t1;t2;t3;l2;");
        CHECK.due("a pal, too", x.stand(1), 8);
        x.seconds(1);
        CHECK.due("debt of the pal", x.debt(0), 2);
        CHECK.due("all freed", x.count(6), 2);
        CHECK.due("not without his friend", Check.told("kp071;kr230;kr080;t1;t2;l2;").stand(1), 6);
    }

    private static void eachTenth() {
        TouchedAndStands x = Check.told("kr000;t0;l3;");
        CHECK.due("in 0", x.stand(1), 0);
        CHECK.due("that is no freeing", x.frees(1), 0);
        x.seconds(1);
        x.touch(0);
        CHECK.due("not in 9", x.stand(9), 1);
        CHECK.due("in 10", x.stand(10), 0);
        x.law(2);
        CHECK.due("by law 3 alone", x.stand(10), 1);
        CHECK.due("touched behind it", Check.told("kc000;kr010;t1;l3;").stand(1), 2);
    }

    /** By this yard the waiter touches, and the freer frees, in every second. */
    private static void freedMost() {
        TouchedAndStands x = Check.told("kw000;kr010;kf070;kp061;t1;");
        x.seconds(60);
        int once = x.count(6);
        CHECK.due("one a second", once, 60);
        x.seconds(60);
        for (int child = 0; child < 4; child++) {
            for (int other = 0; other < 4; other++) {
                CHECK.holds("99 at most", x.owes(child, other) <= 99);
            }
        }
        x.seconds(60);
        x.seconds(60);
        x.seconds(60);
        CHECK.due("owes(1, 2)", x.owes(1, 2), 99);
        CHECK.due("frees goes on", x.frees(60), 60);
    }

    private static void image() {
        TouchedAndStands x = Check.told("kf000;kr031;kc230;t1;l2;");
        CHECK.due("on() without", x.on(), -3);
        x.seconds(3);
        CHECK.due("image()", x.image(), 3);
        x.seconds(20);
        x.law(1);
        x.row(4);
        x.letter('k');
        x.child(9, 0);
        x.touch(0);
        Check.tell(x, "");
        x.letter('t');
        CHECK.due("on()", x.on(), 3);
        CHECK.due("law as then", x.count(4), 2);
        CHECK.due("freed as then", x.count(6), 1);
        CHECK.due("second as then", x.count(3), 3);
        CHECK.due("he runs as then", x.child(0, 3), 0);
        CHECK.due("cell as then", x.child(0, 1), 2);
        CHECK.due("tired as then", x.child(0, 4), 1);
        CHECK.due("the row stays", x.count(7), 1);
        CHECK.due("letters stay", x.count(8), 1);
        CHECK.due("refusals stay", x.count(11), 1);
        Check.tell(x, "");
        Check.tell(x, "kr000;kr000;t3;");
        x.seconds(5);
        CHECK.due("on() again", x.on(), 3);
        CHECK.due("children as then", x.count(0), 3);
        Check.tell(x, "kr000;");
        CHECK.due("one who comes anew runs", x.child(3, 3), 0);
        CHECK.due("and is not tired", x.child(3, 4), 0);
        CHECK.due("nothing is owed by him", x.debt(3), 0);
    }

    private static void counts() {
        TouchedAndStands x = Check.told("kr080;kc060;kg230;kf120;kr140;t4;l1;");
        int[] due = {5, 2, 1, 0, 1, 0, 0, 0, 0, -9, -9, 0, 0, 0, 0, 0, 0, -9};
        for (int what = 0; what < due.length; what++) {
            CHECK.due("count(" + what + ")", x.count(what), due[what]);
        }
        CHECK.due("count(-1)", x.count(-1), -9);
        CHECK.due("-9 is no refusal", x.count(12), 0);
        Check.tell(x, "t4;g000;g323;");
        x.seconds(1);
        CHECK.due("all tired", x.count(5), x.child(0, 4) + x.child(3, 4) + x.child(4, 4));
        x.child(0, 9);
        x.touch(1);
        x.stand(-1);
        x.stand(61);
        x.worth(9);
        x.mean(0, 2);
        CHECK.due("-1", x.count(11), 1);
        CHECK.due("-2", x.count(12), 2);
        CHECK.due("-3", x.count(13), 1);
        CHECK.due("-4", x.count(14), 1);
        CHECK.due("-5", x.count(15), 0);
        CHECK.due("-6", x.count(16), 1);
    }
}
