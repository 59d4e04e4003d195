/** CELLS, FAR, STEPS, EDGE and a SECOND of each KIND: every cell beside every other, and where a rule ends. */
public final class StepTest {
    private static final Check CHECK = new Check("StepTest");

    public static void main(String[] args) {
        far();
        stepsAwayInTheirOrder();
        noStepOutOfTheYard();
        nobodyToStepAwayFrom();
        catcherAtEachCell();
        catcherHasNobody();
        freerAtEachCell();
        freerAndTheNearestCatcher();
        freersChoice();
        palAndHisFriend();
        hedgerAtEachCell();
        guardAtEachCell();
        guardsChoice();
        waiter();
        busy();
        whoStandsDoesNothing();
        byNumbers();
        tired();
        edgeIsSafe();
        freesAllBeside();
        eachTenthSecond();
        CHECK.end();
    }

    private static int apart(int one, int other) {
        return Math.abs(one / 6 - other / 6) + Math.abs(one % 6 - other % 6);
    }

    private static boolean isEdge(int cell) {
        return cell <= 6 || cell >= 17 || cell == 11 || cell == 12;
    }

    /** The cells of the steps stay, up, down, left, right; -1 where there is none. */
    private static int[] steps(int cell) {
        return new int[] {cell, cell < 6 ? -1 : cell - 6, cell > 17 ? -1 : cell + 6, cell % 6 == 0 ? -1 : cell - 1,
            cell % 6 == 5 ? -1 : cell + 1};
    }

    private static int away(int cell, int from) {
        int best = cell;
        for (int step : steps(cell)) {
            best = step >= 0 && apart(step, from) > apart(best, from) ? step : best;
        }
        return best;
    }

    private static int toward(int cell, int goal) {
        int best = cell;
        for (int step : steps(cell)) {
            best = step >= 0 && apart(step, goal) < apart(best, goal) ? step : best;
        }
        return best;
    }

    private static String at(int cell) {
        return (cell < 10 ? "0" : "") + cell;
    }

    private static void far() {
        TouchedAndStands x = new TouchedAndStands();
        int[] rows = {0, 0, 3, 3, 1, 2};
        int[] columns = {0, 5, 0, 5, 5, 0};
        int[][] due = {{0, 5, 3, 8, 6, 2}, {5, 0, 8, 3, 1, 7}, {3, 8, 0, 5, 7, 1}, {8, 3, 5, 0, 2, 6},
            {6, 1, 7, 2, 0, 6}, {2, 7, 1, 6, 6, 0}};
        for (int i = 0; i < 6; i++) {
            for (int j = 0; j < 6; j++) {
                int one = 6 * rows[i] + columns[i];
                int other = 6 * rows[j] + columns[j];
                CHECK.due("far(" + one + ", " + other + ")", x.far(one, other), due[i][j]);
            }
        }
        for (int pair = 0; pair < 300; pair++) {
            int one = pair * 7 % 24;
            int other = pair / 12 % 24;
            CHECK.due("far(" + one + ", " + other + ")", x.far(one, other), apart(one, other));
        }
    }

    /** In the middle of the yard each of the five is best once, or the first of those alike. */
    private static void stepsAwayInTheirOrder() {
        CHECK.due("up, left and right alike: up", runner("08", "kc140;"), 2);
        CHECK.due("down, left and right alike: down", runner("08", "kc020;"), 14);
        CHECK.due("left, where up, down and right are worse", runner("07", "kc090;kc010;kc190;"), 6);
        CHECK.due("right, where up, down and left are worse", runner("10", "kc080;kc040;kc220;"), 11);
        CHECK.due("left and right alike: left", runner("08", "kc020;kc140;"), 7);
        CHECK.due("up and down alike: up", runner("08", "kc090;"), 2);
        CHECK.due("down and right alike: down", runner("08", "kc010;"), 14);
        CHECK.due("a catcher in each: stays", runner("08", "kc020;kc140;kc070;kc090;kc080;"), 8);
        CHECK.due("stays, as all others are nearer to one", runner("05", "kc030;kc170;"), 5);
        CHECK.due("the nearest of the catchers counts, not all together", runner("08", "kc060;kc110;"), 2);
    }

    private static int runner(String cell, String catchers) {
        return Check.told("kr" + cell + "0;" + catchers).where(0, 1);
    }

    /** If a step led around the border to the other side, it would be the farthest. */
    private static void noStepOutOfTheYard() {
        for (int cell = 0; cell < 24; cell++) {
            for (int catcher = 0; catcher < 24; catcher++) {
                TouchedAndStands x = Check.told("kr" + at(cell) + "0;kc" + at(catcher) + "0;");
                CHECK.due(cell + " away from " + catcher, x.where(0, 1), away(cell, catcher));
            }
        }
        CHECK.due("5 away from 11, not round to 6", runner("05", "kc110;"), 4);
        CHECK.due("18 away from 12, not round to 17", runner("18", "kc120;"), 19);
        CHECK.due("2 away from 8, not round to 20", runner("02", "kc080;"), 1);
        CHECK.due("21 away from 15, not round to 3", runner("21", "kc150;"), 20);
        CHECK.due("into the corner and no further", runner("00", "kc010;kc060;"), 0);
        CHECK.due("toward the other side of the border, not round it",
            Check.told("kc050;kr060;").where(0, 1), 11);
    }

    private static void nobodyToStepAwayFrom() {
        for (int cell = 0; cell < 24; cell++) {
            TouchedAndStands x = Check.told("kr" + at(cell) + "0;kf" + at(cell) + "0;kh" + at(cell) + "0;");
            x.seconds(1);
            CHECK.due("all alike: the runner stays at " + cell, x.child(0, 1), cell);
            CHECK.due("and the freer", x.child(1, 1), cell);
            CHECK.due("and the hedger", x.child(2, 1), cell);
            CHECK.due("nobody is tired by that", x.count(5), 0);
        }
    }

    /** He touches in FAR 0 and 1, and goes from FAR 2 on. */
    private static void catcherAtEachCell() {
        for (char kind : new char[] {'c', 'g', 'w'}) {
            for (int cell = 0; cell < 24; cell++) {
                for (int runner = 0; runner < 24; runner++) {
                    TouchedAndStands x = Check.told("k" + kind + at(cell) + "0;kr" + at(runner) + "0;");
                    boolean isNear = apart(cell, runner) <= 1;
                    String what = kind + " at " + cell + ", runner at " + runner;
                    CHECK.due(what, x.where(0, 1), isNear ? cell : toward(cell, runner));
                    CHECK.due(what + ": touched", x.stand(1), isNear ? 2 : 0);
                }
            }
        }
        CHECK.due("the least in reach, not the nearest", Check.told("kc070;kr080;kr070;").stand(1), 2);
        CHECK.due("who stands is not touched again", Check.told("kc070;kr080;kr070;t1;").stand(1), 6);
        CHECK.due("the nearest, be he a later one", Check.told("kc000;kr230;kr040;").where(0, 1), 1);
        CHECK.due("of several as near the least", Check.told("kc080;kr200;kr060;kr100;").where(0, 1), 14);
        CHECK.due("another catcher is no runner", Check.told("kc080;kc090;kr230;").where(0, 1), 14);
    }

    private static void catcherHasNobody() {
        for (char kind : new char[] {'c', 'g', 'w', 'b'}) {
            CHECK.due(kind + " alone stays", Check.told("k" + kind + "080;").where(0, 60), 8);
        }
        CHECK.due("a catcher stays, if nobody runs", Check.told("kc000;kr230;t1;").where(0, 60), 0);
        CHECK.due("beside him, too", Check.told("kc000;kr010;t1;").where(0, 60), 0);
    }

    /** FREES in FAR 0 and 1, goes from FAR 2 on; and whom he could free now. */
    private static void freerAtEachCell() {
        for (String kind : new String[] {"kf", "kp"}) {
            for (int cell = 0; cell < 24; cell++) {
                for (int other = 0; other < 24; other++) {
                    TouchedAndStands x = Check.told(kind + at(cell) + "1;kr" + at(other) + "0;t1;");
                    boolean isNear = apart(cell, other) <= 1;
                    String what = kind + " at " + cell + ", one stands at " + other;
                    CHECK.due(what + ": freed", x.stand(1), isNear ? 0 : 2);
                    CHECK.due(what, x.where(0, 1), isNear ? cell : toward(cell, other));
                    CHECK.due(what + ": frees", x.frees(1), isNear ? 1 : 0);
                    CHECK.due(what + ": may free", x.mayFree(0), isNear ? 1 : -9);
                    CHECK.due(what + ": is no freer", x.mayFree(1), -9);
                }
            }
        }
    }

    /** The catcher is behind him in numbers and waits, so that the freer alone goes. */
    private static void freerAndTheNearestCatcher() {
        for (int catcher = 0; catcher < 24; catcher++) {
            TouchedAndStands x = Check.told("kf080;kr110;kw" + at(catcher) + "0;t1;");
            int due = apart(8, catcher) >= 2 ? 9 : away(8, catcher);
            CHECK.due("a catcher at " + catcher, x.where(0, 1), due);
        }
        CHECK.due("two, one of them in FAR 1", Check.told("kf080;kr110;kw230;kw140;t1;").where(0, 1), 2);
        CHECK.due("no catcher", Check.told("kf080;kr110;t1;").where(0, 1), 9);
        CHECK.due("in FAR 1 of himself, not of the other", Check.told("kf080;kr110;kw110;t1;").where(0, 1), 9);
        CHECK.due("he frees with a catcher in his own cell", Check.told("kf080;kr090;kb080;t1;").frees(1), 1);
    }

    private static void freersChoice() {
        CHECK.due("the least in reach", Check.told("kf080;kr090;kr080;t1;t2;").stand(1), 4);
        CHECK.due("that one alone", Check.told("kf080;kr080;kr080;kr080;t1;t2;t3;").stand(1), 12);
        CHECK.due("one in reach ahead of a lesser one who is not", Check.told("kf080;kr230;kr090;t1;t2;").stand(1), 2);
        CHECK.due("toward the nearest", Check.told("kf080;kr000;kr100;t1;t2;").where(0, 1), 9);
        CHECK.due("of several as near the least", Check.told("kf080;kr200;kr100;kr060;t1;t2;t3;").where(0, 1), 14);
        CHECK.due("nobody stands: as a runner", Check.told("kf080;kr090;kc060;").where(0, 1), 2);
        CHECK.due("a freer, a pal and a hedger may be freed", Check.told("kf080;kf080;t1;").frees(1), 1);
        CHECK.due("a pal", Check.told("kf080;kp080;t1;").frees(1), 1);
        CHECK.due("a hedger", Check.told("kf080;kh080;t1;").frees(1), 1);
        CHECK.due("who stands himself frees nobody", Check.told("kf080;kr080;t0;t1;").frees(60), 0);
        CHECK.due("nor goes he", Check.told("kf080;kr110;t0;t1;").where(0, 60), 8);
    }

    private static void palAndHisFriend() {
        for (int friend = 0; friend <= 7; friend++) {
            String yard = "kp08" + friend + ";" + "kr090;".repeat(7) + "t1;t2;t3;t4;t5;t6;t7;";
            TouchedAndStands x = Check.told(yard);
            CHECK.due("friend " + friend, x.stand(1), 254 & ~(1 << friend));
            CHECK.due("may free " + friend, x.mayFree(0), friend == 0 ? -9 : friend);
            CHECK.due("frees " + friend, x.frees(1), friend == 0 ? 0 : 1);
        }
        CHECK.due("toward his friend, not the nearest", Check.told("kp082;kr100;kr060;t1;t2;").where(0, 1), 7);
        CHECK.due("his friend runs: as a runner", Check.told("kp082;kr090;kr070;kw060;t1;").where(0, 1), 2);
        CHECK.due("a friend who is a catcher never stands", Check.told("kp081;kc230;kr090;t2;").frees(1), 0);
        CHECK.due("a friend who is not there", Check.told("kp087;kr090;t1;").frees(60), 0);
        CHECK.due("he himself is his friend", Check.told("kp080;kr090;t1;").mayFree(0), -9);
        CHECK.due("and stands: he frees nobody", Check.told("kp080;t0;").frees(60), 0);
    }

    /** The waiter is told behind him, and there is one who stands, so that it waits. */
    private static void hedgerAtEachCell() {
        for (int cell = 0; cell < 24; cell++) {
            for (int catcher = 0; catcher < 24; catcher++) {
                TouchedAndStands x = Check.told("kh" + at(cell) + "0;kw" + at(catcher) + "0;kr000;t2;");
                boolean isHidden = isEdge(cell) && apart(cell, catcher) > 1;
                String what = "hedger at " + cell + ", catcher at " + catcher;
                CHECK.due(what, x.where(0, 1), isHidden ? cell : away(cell, catcher));
            }
            CHECK.due("no catcher, hedger at " + cell, Check.told("kh" + at(cell) + "0;").where(0, 60), cell);
        }
    }

    /** One stands and nobody runs: the guard stays in FAR 0 and 1 of him, goes from FAR 2 on. */
    private static void guardAtEachCell() {
        for (int cell = 0; cell < 24; cell++) {
            for (int held = 0; held < 24; held++) {
                String rest = at(cell) + "0;kr" + at(held) + "0;t1;";
                int due = apart(cell, held) <= 1 ? cell : toward(cell, held);
                CHECK.due("guard at " + cell + ", one stands at " + held, Check.told("kg" + rest).where(0, 1), due);
                CHECK.due("waiter at " + cell, Check.told("kw" + rest).where(0, 1), cell);
                CHECK.due("catcher at " + cell, Check.told("kc" + rest).where(0, 1), cell);
            }
        }
    }

    private static void guardsChoice() {
        CHECK.due("the nearest who stands", Check.told("kg080;kr000;kr100;t1;t2;").where(0, 1), 9);
        CHECK.due("of several as near the least", Check.told("kg080;kr200;kr100;t1;t2;").where(0, 1), 14);
        CHECK.due("in FAR 1 of one he stays", Check.told("kg080;kr200;kr090;t1;t2;").where(0, 60), 8);
        CHECK.due("who stands, not who runs nearer", Check.told("kg080;kr200;kr060;t1;").where(0, 1), 14);
        CHECK.due("he touches first", Check.told("kg080;kr200;kr070;t1;").stand(1), 6);
        CHECK.due("nobody stands: as a catcher", Check.told("kg080;kr200;").where(0, 1), 14);
    }

    private static void waiter() {
        CHECK.due("one stands afar: he waits", Check.told("kw080;kr230;kr060;t1;").where(0, 1), 8);
        CHECK.due("he touches first", Check.told("kw080;kr230;kr070;t1;").stand(1), 6);
        CHECK.due("nobody stands: as a guard, so as a catcher", Check.told("kw080;kr200;").where(0, 1), 14);
    }

    private static void busy() {
        for (int second = 0; second <= 12; second++) {
            TouchedAndStands x = new TouchedAndStands();
            if (second > 0) {
                x.seconds(second);
            }
            Check.tell(x, "kb000;kr010;");
            boolean isBusy = second == 0 || second == 3 || second == 6 || second == 9 || second == 12;
            CHECK.due("touches in " + second, x.stand(1), isBusy ? 0 : 2);
            x.go(1, 23);
            CHECK.due("goes in " + second, x.where(0, 1), isBusy ? 0 : 6);
        }
    }

    private static void whoStandsDoesNothing() {
        TouchedAndStands x = Check.told("kr080;kf080;kp080;kh080;kb080;t0;t1;t2;t3;");
        x.seconds(60);
        for (int child = 0; child < 4; child++) {
            CHECK.due("kind " + child + " stands", x.child(child, 3), 1);
            CHECK.due("kind " + child + " is where he was", x.child(child, 1), 8);
        }
        CHECK.due("none frees another", x.count(6), 0);
        CHECK.due("catchers always run", x.child(4, 3), 0);
    }

    /** By how all is then: who has his turn later sees what was done ahead of him in the same second. */
    private static void byNumbers() {
        CHECK.due("the runner ahead of the catcher gets away", Check.told("kr080;kc090;").stand(1), 0);
        CHECK.due("behind him he is touched", Check.told("kc090;kr080;").stand(1), 2);
        CHECK.due("and then does nothing", Check.told("kc090;kr080;").where(1, 1), 8);
        CHECK.due("freed ahead of his turn he goes at once", Check.told("kf080;kr090;kw110;t1;").where(1, 1), 3);
        CHECK.due("freed behind his turn he does not", Check.told("kr090;kf080;kw110;t0;").where(0, 1), 9);
        CHECK.due("touched and freed in one second", Check.told("kc090;kr080;kf080;").stand(1), 0);
        CHECK.due("that is a freeing", Check.told("kc090;kr080;kf080;").frees(1), 1);
        CHECK.due("freed and touched in one second", Check.told("kf070;kr080;kc090;t1;").frees(1), 1);
        CHECK.due("two catchers touch two", Check.told("kc080;kc080;kr080;kr080;").stand(1), 12);
        CHECK.due("the second goes on by what the first did", Check.told("kc080;kc080;kr080;").where(1, 1), 8);
    }

    private static void tired() {
        TouchedAndStands x = Check.told("kr080;kc060;");
        for (int second = 1; second <= 9; second++) {
            x.seconds(1);
            CHECK.due("1 more in second " + second, x.child(0, 4), second);
        }
        int cell = x.child(0, 1);
        x.image();
        x.seconds(1);
        CHECK.due("tired 9 he stays", x.child(0, 1), cell);
        CHECK.due("and is tired 0 then", x.child(0, 4), 0);
        x.on();
        x.touch(0);
        for (int tired = 8; tired >= 0; tired--) {
            x.seconds(1);
            CHECK.due("who stands is 1 less", x.child(0, 4), tired);
        }
        x.seconds(1);
        CHECK.due("0 at least", x.child(0, 4), 0);
        x.on();
        x.go(1, 23);
        x.go(0, 0);
        x.seconds(2);
        CHECK.due("one who is away stays, from 0 on", x.child(0, 4), 0);
        TouchedAndStands alone = Check.told("kr080;kc060;");
        alone.seconds(5);
        Check.tell(alone, "kr000;");
        alone.go(0, 0);
        alone.go(1, 23);
        alone.seconds(1);
        CHECK.due("who stayed is 1 less", alone.child(0, 4), 4);
        CHECK.due("who came anew is not tired", alone.child(2, 4), 0);
        CHECK.due("a catcher is never tired", alone.child(1, 4), 0);
        tiredOfEachKind();
    }

    /** TIRED 9 is looked at ahead of the kind: he stays in that second, be he as near to a catcher as he may. */
    private static void tiredOfEachKind() {
        for (String kind : new String[] {"kr", "kf", "kp", "kh"}) {
            TouchedAndStands x = Check.told(kind + "082;kc140;kr080;");
            for (int tired = 0; tired <= 9; tired++) {
                CHECK.due(kind + " is tired", x.child(0, 4), tired);
                x.go(0, 8);
                x.go(1, 14);
                x.go(2, 5);
                CHECK.due(kind + " goes till he is tired 9", x.where(0, 1), tired < 9 ? 2 : 8);
                CHECK.due(kind + " is touched then", x.stand(1), tired < 9 ? 0 : 1);
                x.seconds(1);
            }
            CHECK.due(kind + " is tired 0 then", x.child(0, 4), 0);
        }
        TouchedAndStands x = Check.told("kf080;kc060;kr230;");
        x.seconds(9);
        x.touch(2);
        x.go(2, x.child(0, 1));
        x.go(1, 23);
        CHECK.due("tired 9 he frees nobody", x.frees(1), 0);
        CHECK.due("but in the next second", x.frees(2), 1);
        CHECK.due("whom he may free, tired or not", x.mayFree(0), 2);
    }

    /** LAW 1 for each cell: the catcher stands in the runner's own. */
    private static void edgeIsSafe() {
        for (int law = 0; law <= 3; law++) {
            for (int cell = 0; cell < 24; cell++) {
                TouchedAndStands x = Check.told("kc" + at(cell) + "0;kr" + at(cell) + "0;");
                x.law(law);
                boolean isSafe = law == 1 && isEdge(cell);
                CHECK.due("law " + law + ", both at " + cell, x.stand(1), isSafe ? 0 : 2);
            }
        }
        CHECK.due("he who is touched, not he who touches, must be at an edge", Check.told("kc010;kr070;l1;").stand(1), 2);
        CHECK.due("the least who is not safe", Check.told("kc070;kr010;kr080;kr070;l1;").stand(1), 4);
        CHECK.due("all are safe: a step toward one", Check.told("kc070;kr010;l1;").where(0, 1), 1);
        CHECK.due("a guard as well", Check.told("kg070;kr010;l1;").stand(1), 0);
        CHECK.due("who stands at an edge stands on", Check.told("kw070;kr010;t1;l1;").stand(60), 2);
    }

    /** LAW 2 for each cell: who frees one frees him too, if he is in FAR 1. */
    private static void freesAllBeside() {
        for (int law = 0; law <= 3; law++) {
            for (int cell = 0; cell < 24; cell++) {
                TouchedAndStands x = new TouchedAndStands();
                x.seconds(1);
                Check.tell(x, "kf080;kr090;kr" + at(cell) + "0;kr230;kr080;t1;t2;t3;l" + law + ";");
                boolean isFreed = law == 2 && apart(8, cell) <= 1;
                CHECK.due("law " + law + ", one at " + cell, x.stand(1), isFreed ? 8 : 12);
                CHECK.due("counted", x.frees(1), isFreed ? 2 : 1);
                x.seconds(1);
                CHECK.due("owed", x.owes(2, 0), isFreed ? 1 : 0);
                CHECK.due("by the first in any case", x.owes(1, 0), 1);
                CHECK.due("who ran owes nothing", x.owes(4, 0), 0);
            }
        }
        CHECK.due("in FAR 1 of himself, not of him whom he frees", Check.told("kf080;kr090;kr100;t1;t2;l2;").stand(1), 4);
        CHECK.due("nobody in reach: nobody is freed", Check.told("kf080;kr100;kr100;t1;t2;l2;").frees(1), 0);
    }

    /** LAW 3 in the seconds 0, 10, .. alone, ahead of all. */
    private static void eachTenthSecond() {
        for (int law = 0; law <= 3; law++) {
            for (int second = 0; second <= 31; second++) {
                TouchedAndStands x = new TouchedAndStands();
                if (second > 0) {
                    x.seconds(second);
                }
                Check.tell(x, "kr000;kh080;kr230;t0;t1;l" + law + ";");
                boolean isTenth = law == 3 && (second == 0 || second == 10 || second == 20 || second == 30);
                CHECK.due("law " + law + " in " + second, x.stand(1), isTenth ? 0 : 3);
                CHECK.due("that is no freeing", x.frees(1), 0);
            }
        }
        CHECK.due("ahead of all: he goes in that second", Check.told("kr080;kw090;t0;l3;").where(0, 1), 2);
        CHECK.due("ahead of all: he is touched in it", Check.told("kc000;kr010;t1;l3;").stand(1), 2);
        CHECK.due("ahead of all: nobody is left to free", Check.told("kf000;kr010;t1;l3;").frees(1), 0);
        CHECK.due("ahead of all: nobody is left to guard", Check.told("kg080;kr000;kr110;t1;l3;").where(0, 1), 2);
    }
}
