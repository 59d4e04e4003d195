/** Promises 10 to 21 and 24 to 28: what is asked of the seconds to come, rows, lots. */
public final class MindTest {
    private static final Check CHECK = new Check("MindTest");

    public static void main(String[] args) {
        standWhereOver();
        mean();
        freesAndNever();
        mayFree();
        worth();
        hunt();
        enough();
        change();
        longest();
        why();
        rows();
        lots();
        CHECK.end();
    }

    private static void standWhereOver() {
        TouchedAndStands x = Check.told("kr080;kc060;kr230;t2;");
        CHECK.due("stand(-1)", x.stand(-1), -4);
        CHECK.due("stand(61)", x.stand(61), -6);
        CHECK.due("stand(0)", x.stand(0), 4);
        CHECK.due("stand(19)", x.stand(19), 4);
        CHECK.due("stand(20)", x.stand(20), 5);
        CHECK.due("stand(60)", x.stand(60), 5);
        CHECK.due("where(3, -1)", x.where(3, -1), -1);
        CHECK.due("where(-1, 0)", x.where(-1, 0), -1);
        CHECK.due("where(0, -1)", x.where(0, -1), -4);
        CHECK.due("where(0, 61)", x.where(0, 61), -6);
        CHECK.due("where(0, 0)", x.where(0, 0), 8);
        CHECK.due("where(0, 1)", x.where(0, 1), 2);
        CHECK.due("over", x.over(), 20);
        CHECK.due("mind changes nothing", x.child(0, 1) + x.count(3) + x.count(5), 8);
        CHECK.due("over at once", Check.told("kr000;t0;kc230;").over(), 0);
        CHECK.due("never over", Check.told("kr000;").over(), -9);
        CHECK.due("catchers alone", Check.told("kc000;").over(), -3);
        CHECK.due("nobody", new TouchedAndStands().over(), -3);
    }

    private static void mean() {
        TouchedAndStands x = Check.told("kc000;kr010;kr000;kr230;t3;");
        CHECK.due("sum 1 2 3 3 above", x.mean(3, 0), 9);
        CHECK.due("below", x.mean(3, 1), 4);
        CHECK.due("1 2 in least terms", x.mean(1, 0), 3);
        CHECK.due("below", x.mean(1, 1), 2);
        CHECK.due("1 2 3: 2", x.mean(2, 0), 2);
        CHECK.due("below", x.mean(2, 1), 1);
        CHECK.due("mean(0, 0)", x.mean(0, 0), 1);
        CHECK.due("mean(60, 0)", x.mean(60, 0), 180);
        CHECK.due("mean(60, 1)", x.mean(60, 1), 61);
        CHECK.due("mean(-1, 5)", x.mean(-1, 5), 4000000000000000004L);
        CHECK.due("mean(61, 5)", x.mean(61, 5), 4000000000000000006L);
        CHECK.due("mean(60, 2)", x.mean(60, 2), 4000000000000000002L);
        CHECK.due("mean(60, -1)", x.mean(60, -1), 4000000000000000002L);
        CHECK.due("none: above", Check.told("kr000;").mean(7, 0), 0);
        CHECK.due("none: below", Check.told("kr000;").mean(7, 1), 1);
    }

    private static void freesAndNever() {
        TouchedAndStands x = Check.told("kw000;kr010;kf070;kp061;t1;");
        CHECK.due("frees(0)", x.frees(0), 0);
        CHECK.due("frees(60)", x.frees(60), 60);
        CHECK.due("frees(61)", x.frees(61), -6);
        CHECK.due("frees(-1)", x.frees(-1), -4);
        TouchedAndStands y = Check.told("kf000;kr031;kr230;t1;t2;");
        CHECK.due("never(0)", y.never(0), 6);
        CHECK.due("never(2)", y.never(2), 6);
        CHECK.due("never(3)", y.never(3), 4);
        CHECK.due("never(60)", y.never(60), 0);
        CHECK.due("never(61)", y.never(61), -6);
        CHECK.due("never(-1)", y.never(-1), -4);
        TouchedAndStands z = Check.told("kr010;kc000;kr000;");
        CHECK.due("touched in the first", z.never(1), 4);
        CHECK.due("but not now", z.never(0), 0);
    }

    private static void mayFree() {
        TouchedAndStands x = Check.told("kf070;kp084;kr070;kc010;kr080;t4;");
        CHECK.due("freer", x.mayFree(0), 4);
        CHECK.due("pal", x.mayFree(1), 4);
        CHECK.due("runner", x.mayFree(2), -9);
        CHECK.due("catcher", x.mayFree(3), -9);
        CHECK.due("who stands", x.mayFree(4), -9);
        x.touch(2);
        CHECK.due("the least", x.mayFree(0), 2);
        CHECK.due("pal: just his friend", x.mayFree(1), 4);
        x.touch(0);
        CHECK.due("who stands himself", x.mayFree(0), -9);
        x.go(1, 23);
        CHECK.due("too far", x.mayFree(1), -9);
        CHECK.due("mayFree(5)", x.mayFree(5), -1);
        CHECK.due("mayFree(-1)", x.mayFree(-1), -1);
        TouchedAndStands tired = Check.told("kf080;kc060;kr230;");
        tired.seconds(9);
        CHECK.due("he is tired", tired.child(0, 4), 9);
        tired.touch(2);
        tired.go(2, tired.child(0, 1));
        CHECK.due("tired or not", tired.mayFree(0), 2);
        CHECK.due("but tired he does not", tired.frees(1), 0);
    }

    private static void worth() {
        TouchedAndStands x = Check.told("kf070;kr080;kr230;t1;");
        CHECK.due("without the freer he stands on", x.worth(0), 20);
        CHECK.due("a runner", x.worth(2), 0);
        CHECK.due("worth(3)", x.worth(3), 1000000001);
        CHECK.due("worth(-1)", x.worth(-1), 1000000001);
        CHECK.due("a catcher", Check.told("kc000;kr010;").worth(0), 1000000003);
        TouchedAndStands bait = Check.told("kc000;kr010;kr020;");
        CHECK.due("who can't be touched, but draws the catcher", bait.worth(2), 0);
        CHECK.holds("may be below 0", Check.told("kw000;kr010;kf070;kp061;t1;").worth(1) < 0);
    }

    private static void hunt() {
        TouchedAndStands x = Check.told("kb000;kr010;kr230;t2;");
        CHECK.due("hunt(3, 0, 9)", x.hunt(3, 0, 9), -1);
        CHECK.due("hunt(1, 0, 9)", x.hunt(1, 0, 9), -3);
        CHECK.due("hunt(0, 0, 9)", x.hunt(0, 0, 9), -4);
        CHECK.due("hunt(0, 61, 9)", x.hunt(0, 61, 9), -6);
        CHECK.due("hunt(0, 60, 2)", x.hunt(0, 60, 2), -2);
        CHECK.due("hunt(0, 1, -1)", x.hunt(0, 1, -1), -2);
        CHECK.due("c at once", x.hunt(0, 1, 0), 0);
        CHECK.due("both", x.hunt(0, 1, 1), 2);
        CHECK.due("all the time", x.hunt(0, 60, 1), 120);
        TouchedAndStands kept = Check.told("kc070;kf080;kr060;kr230;t2;");
        CHECK.due("the kind is as it was", kept.hunt(0, 9, 0) + 10 * kept.child(0, 0), 40);
    }

    private static void enough() {
        CHECK.due("one catcher", Check.told("kr000;").enough(), 1);
        CHECK.due("none more", Check.told("kc000;kr010;").enough(), 0);
        CHECK.due("nobody", new TouchedAndStands().enough(), -3);
        CHECK.due("catchers alone", Check.told("kc000;").enough(), -3);
        CHECK.due("no room", Check.told("kr000;".repeat(8)).enough(), -9);
        TouchedAndStands one = Check.told("kr000;".repeat(7));
        CHECK.due("room for one", one.enough(), 1);
        CHECK.due("nobody has come", one.count(0), 7);
        CHECK.due("two", Check.told("kw000;kr010;kf070;kp061;t1;").enough(), 2);
    }

    private static void change() {
        TouchedAndStands x = Check.told("kc000;kr010;kc230;");
        CHECK.due("change(3, 0, 9)", x.change(3, 0, 9), -1);
        CHECK.due("change(0, 3, 9)", x.change(0, 3, 9), -1);
        CHECK.due("change(-1, 1, 0)", x.change(-1, 1, 0), -1);
        CHECK.due("change(1, 0, 9)", x.change(1, 0, 9), -3);
        CHECK.due("two catchers", x.change(0, 2, 0), -3);
        CHECK.due("one and the same", x.change(0, 0, 0), -3);
        CHECK.due("change(0, 1, 2)", x.change(0, 1, 2), -2);
        CHECK.due("change(0, 1, -1)", x.change(0, 1, -1), -2);
        TouchedAndStands stays = Check.told("kw000;kr010;kr050;kr060;t1;t2;t3;");
        CHECK.due("the new catcher runs and waits, the new runner gets away", stays.change(0, 1, 1), 2);
        CHECK.due("at once", stays.change(0, 1, 0), 0);
        CHECK.due("kinds are as they were", stays.child(0, 0), 6);
        CHECK.due("and who stands", stays.stand(0), 14);
    }

    private static void longest() {
        CHECK.due("an edge is safe", Check.told("kc000;kr010;").longest(), 1);
        CHECK.due("by none over", Check.told("kr010;").longest(), 0);
        CHECK.due("over now by all", Check.told("kr010;t0;").longest(), 0);
        CHECK.due("nobody", new TouchedAndStands().longest(), -3);
        CHECK.due("catchers alone", Check.told("kc000;").longest(), -3);
        TouchedAndStands x = Check.told("kc000;kr010;l2;");
        x.longest();
        CHECK.due("the law is as it was", x.count(4), 2);
    }

    private static void why() {
        TouchedAndStands x = Check.told("kf000;kr030;kr230;kc170;t1;t2;");
        CHECK.due("why(4, 0)", x.why(4, 0), -1);
        CHECK.due("why(0, 0)", x.why(0, 0), -3);
        CHECK.due("why(3, 0)", x.why(3, 0), -3);
        CHECK.due("why(1, 0)", x.why(1, 0), -4);
        CHECK.due("why(1, 61)", x.why(1, 61), -6);
        CHECK.due("not yet fetched", x.why(1, 1), 3);
        CHECK.due("fetched", x.why(1, 9), 0);
        TouchedAndStands none = Check.told("kr000;kp112;kc020;t0;");
        CHECK.due("a pal of another", none.why(0, 5), 1);
        CHECK.due("a pal of his", Check.told("kr000;kp110;kw170;t0;").why(0, 1), 3);
        CHECK.due("a waiter beside him", Check.told("kw000;kr010;kf230;kw220;t1;t2;").why(1, 20), 2);
        CHECK.due("a freer himself", Check.told("kf000;kc230;t0;").why(0, 1), 1);
        CHECK.due("a freer himself, watched", Check.told("kf000;kw010;t0;").why(0, 1), 1);
        CHECK.due("a pal of himself", Check.told("kp000;kc230;t0;").why(0, 1), 1);
        CHECK.due("another freer who stands", Check.told("kf000;kf120;kc230;t0;t1;").why(0, 1), 3);
        CHECK.due("a freer himself by law 3", Check.told("kf000;kc230;t0;l3;").why(0, 1), 0);
        CHECK.due("by law 3 he runs", Check.told("kr000;kc230;t0;l3;").why(0, 1), 0);
    }

    private static void rows() {
        TouchedAndStands x = Check.told("kc000;kr010;");
        CHECK.due("judge of none", x.judge(), -9);
        CHECK.due("fits of none", x.fits(1), 16777215);
        CHECK.due("row(-1)", x.row(-1), -4);
        CHECK.due("row(9)", x.row(9), -6);
        CHECK.due("row(1)", x.row(1), 1);
        CHECK.due("fits: beside the catcher", x.fits(1), 1 | 2 | 64);
        CHECK.due("fits: the catcher", x.fits(0), 1 | 2 | 4 | 128);
        CHECK.due("fits(2)", x.fits(2), -1);
        CHECK.due("fits(-1)", x.fits(-1), -1);
        CHECK.due("the row stays", x.row(0), 2);
        CHECK.due("the second is not so", x.judge(), 1);
        CHECK.due("the row has none", x.count(7), 0);
        CHECK.due("row(8)", x.row(8), 1);
        CHECK.due("the first is not so", x.judge(), 0);
        for (int i = 1; i <= 20; i++) {
            CHECK.due("row(1)", x.row(1), i);
        }
        CHECK.due("a 21st", x.row(1), -6);
        CHECK.due("a 21st below", x.row(-1), -4);
        CHECK.due("all so", x.judge(), -9);
        CHECK.due("he is where he was", x.child(1, 1), 1);
    }

    private static void lots() {
        TouchedAndStands x = Check.told("kw000;kr010;kf070;kp061;t1;");
        CHECK.due("lots(0, 1)", x.lots(0, 1), -4);
        CHECK.due("lots(21, 1)", x.lots(21, 1), -6);
        CHECK.due("lots(4, 7)", x.lots(4, 7), 3);
        CHECK.due("nothing changes", x.stand(0), 2);
        CHECK.due("all run", Check.told("kr000;t0;").lots(20, -5), 0);
        CHECK.due("drawn for who is there", Check.told("kr000;kc000;").lots(1, 0), drawnOver());
    }

    /** The same yard with the two draws by hand: 1013904223 by 256 is 3960563, 3960563 modulo 24 is 11. */
    private static int drawnOver() {
        int second = 1013904223 * 1664525 + 1013904223;
        TouchedAndStands x = Check.told("kr110;kc000;");
        x.go(1, (second & 0x7fffffff) / 256 % 24);
        return Integer.bitCount(x.stand(30));
    }
}
