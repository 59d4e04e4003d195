/** Promises 1 to 8: a new object, letters, the yard and its faults, a child, go, touch, law, far. */
public final class YardTest {
    private static final Check CHECK = new Check("YardTest");

    public static void main(String[] args) {
        newObject();
        letters();
        statements();
        faultsOfLetters();
        faultsOfStatements();
        faultLeavesAll();
        childGoTouch();
        lawAndFar();
        CHECK.end();
    }

    private static void newObject() {
        TouchedAndStands x = new TouchedAndStands();
        for (int what = 0; what <= 8; what++) {
            CHECK.due("new: count(" + what + ")", x.count(what), 0);
        }
        CHECK.due("new: child(0, 0)", x.child(0, 0), -1);
        CHECK.due("new: stand(60)", x.stand(60), 0);
    }

    private static void letters() {
        TouchedAndStands x = new TouchedAndStands();
        CHECK.due("letter(-1)", x.letter(-1), -4);
        CHECK.due("letter(256)", x.letter(256), -6);
        CHECK.due("letter(0)", x.letter(0), 1);
        CHECK.due("letter(255)", x.letter(255), 2);
        for (int i = 3; i <= 96; i++) {
            CHECK.due("letter " + i, x.letter(';'), i);
        }
        CHECK.due("letter 97", x.letter(';'), -6);
        CHECK.due("letter(-1) when full", x.letter(-1), -4);
        CHECK.due("letters", x.count(8), 96);
        CHECK.due("yard", x.yard(), -1000);
        CHECK.due("letters behind a fault", x.count(8), 0);
        CHECK.due("-4", x.count(14), 2);
        CHECK.due("-6", x.count(16), 2);
    }

    private static void statements() {
        TouchedAndStands x = new TouchedAndStands();
        CHECK.due("yard of all", Check.tell(x, "kr000;kf017;kp021;kh030;kc040;kg050;kw060;kb231;t1;l3;g004;"), 11);
        for (int kind = 0; kind < 8; kind++) {
            CHECK.due("kind of " + kind, x.child(kind, 0), kind);
        }
        CHECK.due("cell of 0", x.child(0, 1), 4);
        CHECK.due("cell of 7", x.child(7, 1), 23);
        CHECK.due("friend of 1", x.child(1, 2), 7);
        CHECK.due("1 stands", x.child(1, 3), 1);
        CHECK.due("law", x.count(4), 3);
        CHECK.due("letters", x.count(8), 0);
        CHECK.due("t again", Check.tell(x, "t1;"), 1);
        CHECK.due("1 runs", x.child(1, 3), 0);
        CHECK.due("t twice", Check.tell(x, "t1;t1;"), 2);
        CHECK.due("1 runs still", x.child(1, 3), 0);
        CHECK.due("a catcher may be put", Check.tell(x, "g412;"), 1);
        CHECK.due("cell of 4", x.child(4, 1), 12);
        CHECK.due("96 letters", Check.tell(x, "l1;".repeat(32)), 32);
    }

    private static void faultsOfLetters() {
        String[] texts = {"", "x", "k", "kx", "kr", "kr2", "kr23", "kr230", "kr230;k", "kr23;", "kr2300", "t;", "t0",
            "t00", "l;", "l", "l00", "g;", "g00;", "g000", "g0000", "l0;;", "l0; ", "K", "kr:00;", "kr/00;", "l0;l9",
            "l9;x"};
        int[] places = {0, 0, 1, 1, 2, 3, 4, 5, 7, 4, 5, 1, 2, 2, 1, 1, 2, 1, 3, 4, 4, 3, 3, 0, 2, 2, 5, 3};
        for (int i = 0; i < texts.length; i++) {
            TouchedAndStands x = new TouchedAndStands();
            CHECK.due("\"" + texts[i] + "\"", Check.tell(x, texts[i]), -1000 - places[i]);
            CHECK.due("faults are not counted", refusals(x), 0);
        }
    }

    private static void faultsOfStatements() {
        String eight = "kr000;".repeat(8);
        String[] texts = {"kr240;", "kr990;", "kr008;", "kr009;", "t0;", "l4;", "l9;", "g000;", "kc000;t0;",
            "kr000;t1;", "kr000;g024;", "kr000;g100;", "kr000;t0;l4;", eight + "kr000;", "t0;kr000;", "kr000;t9;",
            "l3;l2;l4;l5;"};
        int[] places = {0, 0, 0, 0, 0, 0, 0, 0, 6, 6, 6, 6, 9, 48, 0, 6, 6};
        for (int i = 0; i < texts.length; i++) {
            TouchedAndStands x = new TouchedAndStands();
            CHECK.due("\"" + texts[i] + "\"", Check.tell(x, texts[i]), -2000 - places[i]);
            CHECK.due("nobody behind " + texts[i], x.count(0), 0);
            CHECK.due("no law behind " + texts[i], x.count(4), 0);
            CHECK.due("faults are not counted", refusals(x), 0);
        }
    }

    private static void faultLeavesAll() {
        TouchedAndStands x = Check.told("kr000;l2;");
        CHECK.due("a fault behind good ones", Check.tell(x, "t0;g005;l1;kr110;l4;"), -2017);
        CHECK.due("cell", x.child(0, 1), 0);
        CHECK.due("runs", x.child(0, 3), 0);
        CHECK.due("law", x.count(4), 2);
        CHECK.due("children", x.count(0), 1);
        CHECK.due("who was there counts", Check.tell(x, "t0;g005;kc000;"), 3);
        CHECK.due("he stands", x.child(0, 3), 1);
        CHECK.due("he went", x.child(0, 1), 5);
    }

    private static void childGoTouch() {
        TouchedAndStands x = Check.told("kr070;kc005;");
        CHECK.due("child(-1, 9)", x.child(-1, 9), -1);
        CHECK.due("child(2, 0)", x.child(2, 0), -1);
        CHECK.due("child(0, -1)", x.child(0, -1), -2);
        CHECK.due("child(0, 5)", x.child(0, 5), -2);
        CHECK.due("child(1, 2)", x.child(1, 2), 5);
        CHECK.due("go(0, 23)", x.go(0, 23), 7);
        CHECK.due("go(0, 0)", x.go(0, 0), 23);
        CHECK.due("go(1, 1)", x.go(1, 1), 0);
        CHECK.due("go(0, 24)", x.go(0, 24), -1);
        CHECK.due("go(0, -1)", x.go(0, -1), -1);
        CHECK.due("go(2, 0)", x.go(2, 0), -1);
        CHECK.due("go(-1, 0)", x.go(-1, 0), -1);
        CHECK.due("cell stays", x.child(0, 1), 0);
        CHECK.due("touch(0)", x.touch(0), 1);
        CHECK.due("who stand", x.count(2), 1);
        CHECK.due("touch(0)", x.touch(0), 0);
        CHECK.due("touch(1)", x.touch(1), -3);
        CHECK.due("touch(2)", x.touch(2), -1);
        CHECK.due("-1", x.count(11), 7);
        CHECK.due("-2", x.count(12), 2);
        CHECK.due("-3", x.count(13), 1);
    }

    private static void lawAndFar() {
        TouchedAndStands x = new TouchedAndStands();
        CHECK.due("law(3)", x.law(3), 0);
        CHECK.due("law(1)", x.law(1), 3);
        CHECK.due("law(4)", x.law(4), -2);
        CHECK.due("law(-1)", x.law(-1), -2);
        CHECK.due("law stays", x.count(4), 1);
        CHECK.due("far(0, 23)", x.far(0, 23), 8);
        CHECK.due("far(5, 6)", x.far(5, 6), 6);
        CHECK.due("far(13, 13)", x.far(13, 13), 0);
        CHECK.due("far(24, 0)", x.far(24, 0), -1);
        CHECK.due("far(0, -1)", x.far(0, -1), -1);
    }

    private static int refusals(TouchedAndStands x) {
        int sum = 0;
        for (int what = 11; what <= 16; what++) {
            sum += x.count(what);
        }
        return sum;
    }
}
