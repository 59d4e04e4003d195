/** Promises 1 to 9, 22, 23 and 29 to 31: what is taken up to its limits, the empty and the full object, the image. */
public final class LimitTest {
    private static final Check CHECK = new Check("LimitTest");

    public static void main(String[] args) {
        newObject();
        newObjectIsAsked();
        fullObject();
        eachOfChild();
        goToEachCell();
        touchEach();
        eachLaw();
        secondsUpTo999();
        freedUpTo99();
        debts();
        imageOfNobody();
        onToNobody();
        imageLeavesOut();
        imageIsOneAlone();
        counts();
        twoObjects();
        CHECK.end();
    }

    private static void newObject() {
        TouchedAndStands x = new TouchedAndStands();
        for (int what = -1; what <= 18; what++) {
            boolean isCounted = what >= 0 && what <= 8 || what >= 11 && what <= 16;
            CHECK.due("new: count(" + what + ")", x.count(what), isCounted ? 0 : -9);
        }
        for (int child = 0; child <= 7; child++) {
            CHECK.due("nobody is child " + child, x.child(child, 0), -1);
        }
        CHECK.due("the law was", x.law(0), 0);
        CHECK.due("SECOND", x.image(), 0);
    }

    private static void newObjectIsAsked() {
        TouchedAndStands x = new TouchedAndStands();
        for (int n : new int[] {0, 1, 60}) {
            CHECK.due("stand", x.stand(n), 0);
            CHECK.due("frees", x.frees(n), 0);
            CHECK.due("never", x.never(n), 0);
            CHECK.due("mean above", x.mean(n, 0), 0);
            CHECK.due("mean below", x.mean(n, 1), 1);
            CHECK.due("where", x.where(0, n), -1);
        }
        CHECK.due("over", x.over(), -3);
        CHECK.due("enough", x.enough(), -3);
        CHECK.due("longest", x.longest(), -3);
        CHECK.due("judge", x.judge(), -9);
        CHECK.due("lots", x.lots(20, 1), 0);
        CHECK.due("on", x.on(), -3);
        CHECK.due("yard", x.yard(), -1000);
        CHECK.due("go", x.go(0, 0), -1);
        CHECK.due("touch", x.touch(0), -1);
        CHECK.due("mayFree", x.mayFree(0), -1);
        CHECK.due("worth", x.worth(0), 1000000001);
        CHECK.due("hunt", x.hunt(0, 1, 0), -1);
        CHECK.due("change", x.change(0, 0, 0), -1);
        CHECK.due("owes", x.owes(0, 0), -1);
        CHECK.due("debt", x.debt(0), 1000000001);
        CHECK.due("why", x.why(0, 1), -1);
        CHECK.due("fits", x.fits(0), -1);
        CHECK.due("far", x.far(0, 23), 8);
        CHECK.due("seconds go by without anybody", x.seconds(60), 60);
    }

    /** The eighth child answers each call, a ninth none. */
    private static void fullObject() {
        TouchedAndStands x = States.full();
        CHECK.due("children", x.count(0), 8);
        CHECK.due("catchers", x.count(1), 4);
        CHECK.due("who stand", x.count(2), 2);
        CHECK.due("SECOND", x.count(3), 999);
        CHECK.due("LAW", x.count(4), 3);
        CHECK.due("in the row", x.count(7), 20);
        CHECK.due("letters", x.count(8), 96);
        CHECK.due("the eighth: kind", x.child(7, 0), 7);
        CHECK.due("cell", x.child(7, 1), 23);
        CHECK.due("friend", x.child(7, 2), 1);
        CHECK.due("where", x.where(7, 0), 23);
        CHECK.due("go", x.go(7, 22), 23);
        CHECK.due("touch", x.touch(7), -3);
        CHECK.due("mayFree", x.mayFree(7), -9);
        CHECK.due("worth", x.worth(7), 1000000003);
        CHECK.holds("hunt", x.hunt(7, 60, 1) >= 0);
        CHECK.holds("change", x.change(7, 0, 1) >= 0);
        CHECK.due("owes", x.owes(7, 7), 0);
        CHECK.due("debt", x.debt(7), 0);
        CHECK.due("why", x.why(7, 1), -3);
        CHECK.due("fits", x.fits(7), 0);
        CHECK.holds("lots", x.lots(20, 5) >= 0);
        CHECK.due("a ninth", x.child(8, 0), -1);
        CHECK.due("he goes nowhere", x.go(8, 0), -1);
        CHECK.due("the yard of 96 letters", x.yard(), 32);
        CHECK.due("its law", x.count(4), 2);
    }

    private static void eachOfChild() {
        TouchedAndStands x = Check.told("kr000;kf017;kp231;kh053;kc180;kg060;kw114;kb175;t2;");
        int[] cells = {0, 1, 23, 5, 18, 6, 11, 17};
        int[] friends = {0, 7, 1, 3, 0, 0, 4, 5};
        for (int child = 0; child <= 7; child++) {
            CHECK.due("kind of " + child, x.child(child, 0), child);
            CHECK.due("cell of " + child, x.child(child, 1), cells[child]);
            CHECK.due("friend of " + child, x.child(child, 2), friends[child]);
            CHECK.due("stands " + child, x.child(child, 3), child == 2 ? 1 : 0);
            CHECK.due("tired " + child, x.child(child, 4), 0);
        }
    }

    private static void goToEachCell() {
        TouchedAndStands x = Check.told("kr000;kc000;");
        int was = 0;
        for (int i = 1; i <= 48; i++) {
            int cell = i * 5 % 24;
            CHECK.due("the runner goes to " + cell, x.go(0, cell), was);
            CHECK.due("the catcher goes to " + cell, x.go(1, cell), was);
            CHECK.due("he is there", x.child(0, 1), cell);
            CHECK.due("several may be in one", x.child(1, 1), cell);
            was = cell;
        }
        CHECK.due("he goes where he is", x.go(0, was), was);
        CHECK.due("nobody is tired by that", x.count(5), 0);
        CHECK.due("no second goes by", x.count(3), 0);
    }

    private static void touchEach() {
        TouchedAndStands x = Check.told("kr000;kf000;kp000;kh000;kc000;kg000;kw000;kb000;");
        for (int child = 0; child <= 3; child++) {
            CHECK.due("he stands", x.touch(child), 1);
            CHECK.due("and is seen to", x.child(child, 3), 1);
            CHECK.due("who stand", x.count(2), child + 1);
        }
        for (int child = 4; child <= 7; child++) {
            CHECK.due("a catcher", x.touch(child), -3);
            CHECK.due("he runs", x.child(child, 3), 0);
        }
        for (int child = 0; child <= 3; child++) {
            CHECK.due("he runs again", x.touch(child), 0);
            CHECK.due("and is seen to", x.child(child, 3), 0);
        }
        CHECK.due("nobody freed him", x.count(6), 0);
        CHECK.due("who stand", x.count(2), 0);
    }

    private static void eachLaw() {
        TouchedAndStands x = new TouchedAndStands();
        int was = 0;
        for (int v : new int[] {3, 0, 1, 2, 3, 3, 2, 1, 0, 0}) {
            CHECK.due("law(" + v + ")", x.law(v), was);
            CHECK.due("it holds", x.count(4), v);
            was = v;
        }
    }

    /** From each second by which n more are 999, and by which they are 1000. */
    private static void secondsUpTo999() {
        for (int n = 1; n <= 60; n++) {
            TouchedAndStands x = new TouchedAndStands();
            int left = 999 - n;
            for (; left > 60; left -= 60) {
                x.seconds(60);
            }
            x.seconds(left);
            CHECK.due("SECOND", x.count(3), 999 - n);
            if (n < 60) {
                CHECK.due("to the second 1000", x.seconds(n + 1), -6);
            }
            CHECK.due("SECOND is as it was", x.count(3), 999 - n);
            CHECK.due("to the second 999", x.seconds(n), 999);
            CHECK.due("one more", x.seconds(1), -6);
            CHECK.due("image at 999", x.image(), 999);
            CHECK.due("on at 999", x.on(), 999);
        }
        TouchedAndStands x = new TouchedAndStands();
        for (int i = 1; i <= 60; i++) {
            CHECK.due("seconds(1)", x.seconds(1), i);
        }
        CHECK.due("seconds(60)", x.seconds(60), 120);
        CHECK.due("seconds(59)", x.seconds(59), 179);
    }

    /** The freer frees the one whom the waiter touches, once in each second. */
    private static void freedUpTo99() {
        TouchedAndStands x = Check.told("kw000;kr010;kf070;t1;");
        int second = 0;
        for (int n : new int[] {60, 37, 1, 1, 1, 1, 60}) {
            x.go(0, 0);
            x.go(1, 1);
            x.go(2, 7);
            int before = x.count(6);
            int due = Math.min(99, before + x.frees(n));
            x.seconds(n);
            second += n;
            CHECK.due("FREED behind " + second, x.owes(1, 2), due);
            CHECK.due("all FREED", x.count(6), due);
            CHECK.due("debt of the freer", x.debt(2), due);
            CHECK.due("debt of him who was freed", x.debt(1), -due);
        }
        byOnes();
    }

    private static void byOnes() {
        TouchedAndStands x = Check.told("kf080;kr080;");
        for (int i = 1; i <= 102; i++) {
            x.touch(1);
            x.seconds(1);
            if (i >= 97) {
                CHECK.due("freed " + i + " times", x.owes(1, 0), Math.min(99, i));
                CHECK.due("the debt", x.debt(0), Math.min(99, i));
            }
        }
        x.touch(1);
        CHECK.due("frees is none of FREED: it goes on", x.frees(1), 1);
        CHECK.due("the other way", x.owes(0, 1), 0);
        x.image();
        x.on();
        CHECK.due("as then", x.owes(1, 0), 99);
    }

    /** Two freers free each other, and a third. */
    private static void debts() {
        TouchedAndStands x = Check.told("kf080;kf080;kr080;kc230;");
        x.touch(2);
        x.seconds(1);
        CHECK.due("the least frees him", x.owes(2, 0), 1);
        x.go(1, 8);
        x.go(0, 8);
        x.touch(0);
        x.seconds(1);
        CHECK.due("the other frees the least", x.owes(0, 1), 1);
        CHECK.due("debt(0): freed one, was freed once", x.debt(0), 0);
        CHECK.due("debt(1)", x.debt(1), 1);
        CHECK.due("debt(2) is below 0", x.debt(2), -1);
        CHECK.due("debt of a catcher", x.debt(3), 0);
        CHECK.due("to himself", x.owes(0, 0), 0);
        CHECK.due("not the other way", x.owes(1, 0), 0);
        CHECK.due("a catcher owes nothing", x.owes(3, 0), 0);
        CHECK.due("in all", x.count(6), 2);
    }

    private static void imageOfNobody() {
        TouchedAndStands x = new TouchedAndStands();
        CHECK.due("image", x.image(), 0);
        Check.tell(x, "kr000;".repeat(8) + "t7;l3;");
        x.seconds(60);
        CHECK.due("on", x.on(), 0);
        CHECK.due("nobody as then", x.count(0), 0);
        CHECK.due("law as then", x.count(4), 0);
        CHECK.due("nobody is child 0", x.child(0, 0), -1);
        CHECK.due("there is room for eight anew", Check.tell(x, "kr230;".repeat(8)), 8);
        CHECK.due("they run", x.count(2), 0);
    }

    /** Eight were told and thought of since: on from the image no call finds any of them. */
    private static void onToNobody() {
        TouchedAndStands x = new TouchedAndStands();
        x.image();
        Check.tell(x, "kc000;kf010;" + "kr020;".repeat(6) + "t2;");
        x.stand(60);
        x.change(0, 1, 0);
        x.on();
        CHECK.due("child", x.child(0, 0), -1);
        CHECK.due("go", x.go(0, 0), -1);
        CHECK.due("touch", x.touch(1), -1);
        CHECK.due("where", x.where(1, 0), -1);
        CHECK.due("over", x.over(), -3);
        CHECK.due("mayFree", x.mayFree(1), -1);
        CHECK.due("worth", x.worth(1), 1000000001);
        CHECK.due("hunt", x.hunt(0, 1, 0), -1);
        CHECK.due("enough", x.enough(), -3);
        CHECK.due("change", x.change(0, 1, 0), -1);
        CHECK.due("longest", x.longest(), -3);
        CHECK.due("owes", x.owes(0, 1), -1);
        CHECK.due("debt", x.debt(0), 1000000001);
        CHECK.due("why", x.why(2, 1), -1);
        CHECK.due("fits", x.fits(0), -1);
        CHECK.due("stand", x.stand(0), 0);
        CHECK.due("lots", x.lots(20, 1), 0);
        CHECK.due("one of eight", Check.tell(x, "kc000;"), 1);
        x.stand(1);
        x.image();
        Check.tell(x, "kr000;t1;");
        x.stand(1);
        x.on();
        CHECK.due("owes him who is gone", x.owes(0, 1), -1);
        CHECK.due("owed by him who is gone", x.owes(1, 0), -1);
        CHECK.due("change with him who is gone", x.change(0, 1, 0), -1);
        CHECK.due("change of him who is gone", x.change(1, 0, 0), -1);
        CHECK.due("there are catchers alone", x.over(), -3);
    }

    /** All but the image itself, the ROW, letters and REFUSALS are as then. */
    private static void imageLeavesOut() {
        TouchedAndStands x = States.some();
        x.image();
        String then = Look.open(x);
        x.judge();
        x.row(8);
        x.yard();
        x.letter(1);
        x.letter(2);
        x.letter(3);
        x.law(9);
        String told = " 1 3";
        x.touch(0);
        x.go(0, 23);
        x.go(1, 0);
        x.law(1);
        x.seconds(60);
        CHECK.due("on", x.on(), 6);
        String now = Look.open(x);
        CHECK.same("all is as then but the row and the letters", now.replaceFirst(told + " \\|", " 2 2 |"), then);
        CHECK.due("the row", x.count(7), 1);
        CHECK.due("the letters", x.count(8), 3);
        CHECK.due("the refusals", x.count(12), 1);
        x.law(9);
        x.on();
        CHECK.due("the refusals go on", x.count(12), 2);
        CHECK.due("the row is the one told since", x.judge(), 0);
        CHECK.due("the letters are those told since", x.yard(), -1000);
    }

    private static void imageIsOneAlone() {
        TouchedAndStands x = Check.told("kr080;kc060;");
        x.image();
        x.seconds(5);
        String five = Look.open(x);
        CHECK.due("a second image", x.image(), 5);
        x.seconds(7);
        CHECK.due("on from the second", x.on(), 5);
        CHECK.same("as then", Look.open(x), five);
        x.seconds(60);
        CHECK.due("on again from the same", x.on(), 5);
        CHECK.same("as then", Look.open(x), five);
        CHECK.due("on at once", x.on(), 5);
        x.touch(0);
        CHECK.due("what is done since is not in the image", x.on(), 5);
        CHECK.due("he runs", x.child(0, 3), 0);
    }

    private static void counts() {
        TouchedAndStands x = Check.told("kr080;kc060;kg230;kf120;kr140;t4;l1;");
        int[] due = {5, 2, 1, 0, 1, 0, 0, 0, 0};
        for (int what = 0; what <= 8; what++) {
            CHECK.due("count(" + what + ")", x.count(what), due[what]);
        }
        for (int what : new int[] {-1, 9, 10, 17, Integer.MIN_VALUE, Integer.MAX_VALUE}) {
            CHECK.due("count(" + what + ")", x.count(what), -9);
        }
        x.seconds(2);
        int tired = 0;
        for (int child = 0; child < 5; child++) {
            tired += x.child(child, 4);
        }
        CHECK.holds("some are tired", tired > 0);
        CHECK.due("all TIRED", x.count(5), tired);
        CHECK.due("SECOND", x.count(3), 2);
        for (int i = 1; i <= 3; i++) {
            x.row(i);
            x.letter('k');
            CHECK.due("in the row", x.count(7), i);
            CHECK.due("letters", x.count(8), i);
        }
        TouchedAndStands eight = Check.told("kc000;kg000;kw000;kb000;kc000;kg000;kw000;kb000;");
        CHECK.due("all catchers", eight.count(1), 8);
        CHECK.due("all children", eight.count(0), 8);
        CHECK.due("none stands", eight.count(2), 0);
        TouchedAndStands none = Check.told("kr000;".repeat(8));
        CHECK.due("no catcher", none.count(1), 0);
    }

    /** One object knows nothing of another. */
    private static void twoObjects() {
        TouchedAndStands x = States.full();
        TouchedAndStands y = new TouchedAndStands();
        CHECK.due("nobody", y.count(0) + y.count(3) + y.count(7) + y.count(8), 0);
        CHECK.due("no image", y.on(), -3);
        x.law(9);
        CHECK.due("refusals", y.count(12), 0);
    }
}
