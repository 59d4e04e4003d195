/** Part II: each question beside what then comes, at the least and the greatest number of seconds, breaks, numbers. */
public final class AheadTest {
    private static final Check CHECK = new Check("AheadTest");
    private static final String[] YARDS = {"kr080;kc060;kr230;t2;", "kf000;kr031;kc230;kr120;t1;t3;l2;",
        "kw000;kr010;kf070;kp061;t1;", "kf011;kr030;kh100;kg130;kb220;t1;l3;", "kc070;kr010;kh080;kp152;t2;l1;",
        "kr000;kr110;kf170;kp203;kh090;kc140;kg080;kb030;t0;t3;", "kr080;", "kc080;", "kr080;t0;", "kc011;kf152;kf131;"};

    public static void main(String[] args) {
        whatComes();
        beyond999();
        over();
        overBySixty();
        mean();
        never();
        worthOfAFreer();
        worthOfOthers();
        worthEndsAtTwenty();
        hunt();
        huntOfSeveral();
        enough();
        enoughAsThereIsRoom();
        change();
        changeOfSeveral();
        longest();
        why();
        whyAtEachCell();
        rows();
        rowOfTwenty();
        lots();
        CHECK.end();
    }

    private static int stands(TouchedAndStands x, int n) {
        return Integer.bitCount(x.stand(n));
    }

    /** For each n from 0 to 60: the same as of a twin to whom the seconds have gone by. */
    private static void whatComes() {
        for (String yard : YARDS) {
            for (int n = 0; n <= 60; n++) {
                TouchedAndStands x = Check.told(yard);
                TouchedAndStands twin = Check.told(yard);
                if (n > 0) {
                    CHECK.due("SECOND", twin.seconds(n), n);
                }
                String what = yard + " behind " + n;
                CHECK.due(what + " stand", x.stand(n), twin.stand(0));
                CHECK.due(what + " frees", x.frees(n), twin.count(6));
                for (int child = 0; child < x.count(0); child++) {
                    CHECK.due(what + " where " + child, x.where(child, n), twin.child(child, 1));
                    CHECK.due(what + " stands " + child, x.stand(n) >> child & 1, twin.child(child, 3));
                }
            }
        }
    }

    /** The second 1000 is a tenth one, and one in which the busy are not busy (999 and 1002 are). */
    private static void beyond999() {
        TouchedAndStands x = new TouchedAndStands();
        for (int i = 0; i < 16; i++) {
            x.seconds(60);
        }
        CHECK.due("to 999", x.seconds(39), 999);
        Check.tell(x, "kr000;kb230;t0;kr230;l3;");
        CHECK.due("in 999", x.stand(1), 1);
        CHECK.due("in 1000", x.stand(2), 4);
        CHECK.due("in 1001", x.where(1, 3), 17);
        CHECK.due("in 1002", x.where(1, 4), 17);
        CHECK.due("in 1003", x.where(1, 5), 11);
        CHECK.due("SECOND is as it was", x.count(3), 999);
    }

    private static void over() {
        CHECK.due("now", Check.told("kr000;t0;").over(), 0);
        CHECK.due("now, with catchers", Check.told("kr000;t0;kc230;").over(), 0);
        CHECK.due("not as long as one runs", Check.told("kr000;kr000;t0;").over(), -9);
        CHECK.due("behind 1", Check.told("kc000;kr010;").over(), 1);
        CHECK.due("behind 1, though not behind 2", Check.told("kf000;kc010;kf000;t0;kr010;t3;t2;l3;").over(), 0);
        for (String yard : YARDS) {
            TouchedAndStands x = Check.told(yard);
            int players = 0;
            for (int child = 0; child < x.count(0); child++) {
                players |= x.child(child, 0) < 4 ? 1 << child : 0;
            }
            int due = players == 0 ? -3 : -9;
            for (int n = 60; n >= 0; n--) {
                due = players != 0 && x.stand(n) == players ? n : due;
            }
            CHECK.due(yard + " over", x.over(), due);
        }
    }

    /** Yards in which all stand behind 61 seconds first: that is too late by one, and is not when one has gone by. */
    private static void overBySixty() {
        String[] yards = {"kc121;kr232;kr192;", "kp002;kh131;kc051;", "kc170;kr062;kr052;"};
        int[] players = {6, 3, 6};
        for (int i = 0; i < yards.length; i++) {
            TouchedAndStands x = Check.told(yards[i]);
            CHECK.due(yards[i] + " is over behind 61", x.over(), -9);
            CHECK.holds("not behind 60", x.stand(60) != players[i]);
            x.seconds(1);
            CHECK.due(yards[i] + " is over behind 60", x.over(), 60);
            CHECK.due("all stand", x.stand(60), players[i]);
            CHECK.holds("not behind 59", x.stand(59) != players[i]);
            x.seconds(1);
            CHECK.due(yards[i] + " is over behind 59", x.over(), 59);
        }
        TouchedAndStands x = Check.told(yards[0]);
        CHECK.due("by second 60 it is not over with none more", x.enough(), 1);
        x.seconds(1);
        CHECK.due("then it is", x.enough(), 0);
    }

    private static void mean() {
        for (String yard : YARDS) {
            TouchedAndStands x = Check.told(yard);
            int sum = 0;
            for (int n = 0; n <= 60; n++) {
                sum += stands(x, n);
                int shared = 1;
                for (int divisor = 2; divisor <= n + 1; divisor++) {
                    shared = sum % divisor == 0 && (n + 1) % divisor == 0 ? divisor : shared;
                }
                CHECK.due(yard + " mean above " + n, x.mean(n, 0), sum / shared);
                CHECK.due(yard + " mean below " + n, x.mean(n, 1), (n + 1) / shared);
            }
        }
        CHECK.due("nobody: above", new TouchedAndStands().mean(60, 0), 0);
        CHECK.due("nobody: below, in least terms", new TouchedAndStands().mean(60, 1), 1);
        TouchedAndStands full = Check.told("kr000;".repeat(8) + "t0;t1;t2;t3;t4;t5;t6;t7;");
        CHECK.due("all eight: above", full.mean(60, 0), 8);
        CHECK.due("all eight: below", full.mean(60, 1), 1);
        CHECK.due("n 0 is now", full.mean(0, 0), 8);
    }

    private static void never() {
        for (String yard : YARDS) {
            TouchedAndStands x = Check.told(yard);
            CHECK.due(yard + " never 0 is now", x.never(0), x.stand(0));
            int due = 255;
            for (int n = 1; n <= 60; n++) {
                due &= x.stand(n);
                CHECK.due(yard + " never " + n, x.never(n), due);
            }
        }
        CHECK.due("now is none of 1 .. n: who is touched in the first", Check.told("kc000;kr010;").never(60), 2);
        CHECK.due("now is none of 1 .. n: who is freed in the first", Check.told("kf000;kr010;t1;").never(1), 0);
        CHECK.due("nobody", new TouchedAndStands().never(60), 0);
        CHECK.due("all eight", Check.told("kr000;".repeat(8) + "t0;t1;t2;t3;t4;t5;t6;t7;").never(60), 255);
    }

    /** He frees in second f one in FAR f (in the first one in FAR 0); without him that one stands in all twenty. */
    private static void worthOfAFreer() {
        for (int cell = 0; cell < 24; cell++) {
            TouchedAndStands x = Check.told("kf000;kr" + (cell < 10 ? "0" : "") + cell + "0;t1;");
            int frees = Math.max(1, x.far(0, cell));
            CHECK.due("worth of a freer in FAR " + x.far(0, cell), x.worth(0), 20 - (frees - 1));
            CHECK.due("worth of him who stands", x.worth(1), 0);
        }
    }

    private static void worthOfOthers() {
        CHECK.due("he himself is not counted", Check.told("kc000;kr010;").worth(1), 0);
        CHECK.due("nor he who stands", Check.told("kc000;kr010;t1;").worth(1), 0);
        CHECK.due("alone", Check.told("kr000;").worth(0), 0);
        CHECK.due("passed over, so the other is touched a second ahead", Check.told("kc000;kr010;kr000;").worth(1), 1);
        for (int cell = 7; cell < 24; cell++) {
            TouchedAndStands x = Check.told("kc000;kr010;kh" + (cell < 10 ? "0" : "") + cell + "0;");
            int stood = 0;
            for (int n = 1; n <= 20; n++) {
                stood += x.stand(n) >> 2 & 1;
            }
            CHECK.holds("the other is touched in time", stood > 0);
            CHECK.due("who can't be touched draws the catcher for good", x.worth(1), -stood);
        }
        TouchedAndStands freer = Check.told("kw000;kr010;kf070;t1;");
        CHECK.due("who does nothing frees nobody", freer.worth(2), 20);
        TouchedAndStands eight = Check.told("kf080;" + "kr080;".repeat(7) + "t1;t2;t3;t4;t5;t6;t7;l2;");
        CHECK.due("all seven in each of twenty", eight.worth(0), 140);
        TouchedAndStands byThree = Check.told("kf070;kr080;kr080;t1;l3;");
        CHECK.due("by law 3 one runs without him", byThree.worth(0), 0);
    }

    /** What happens in second 21 only is none of it, in second 20 it is; the twin one second later tells which. */
    private static void worthEndsAtTwenty() {
        TouchedAndStands x = Check.told("kf070;kr080;kr230;");
        TouchedAndStands later = Check.told("kf070;kr080;kr230;t1;");
        CHECK.due("nobody stands", x.worth(0), 0);
        CHECK.due("one stands for twenty, and no more", later.worth(0), 20);
        String[] yards = {"kg001;kp031;kf042;", "kr092;kc140;kf051;", "kc122;kr151;kp020;", "kc151;kf172;kh102;"};
        int[] who = {2, 2, 2, 1};
        int[] due = {1, 1, -1, -1};
        for (int i = 0; i < yards.length; i++) {
            TouchedAndStands y = Check.told(yards[i]);
            CHECK.due(yards[i] + " by second 20", y.worth(who[i]), 0);
            y.seconds(1);
            CHECK.due(yards[i] + " by second 21", y.worth(who[i]), due[i]);
        }
    }

    /** Each kind told anew, its seconds summed; yards in which each of the four is best. */
    private static void hunt() {
        String[] yards = {"kw070;kr150;", "kg111;kp160;kf230;kw112;t1;", "kw143;kf070;kr202;kc142;t2;l1;",
            "kg221;kr170;kg110;", "kc011;kf152;kf131;", "kc202;kp182;kp151;t1;", "kw171;kr091;kb120;"};
        int[] catcher = {0, 0, 0, 0, 0, 0, 2};
        boolean[] wasBest = new boolean[4];
        for (int i = 0; i < yards.length; i++) {
            TouchedAndStands x = Check.told(yards[i]);
            for (int n : new int[] {1, 2, 9, 20, 59, 60}) {
                int best = 0;
                int most = -1;
                for (int kind = 0; kind <= 3; kind++) {
                    int place = 6 * catcher[i] + 1;
                    String other = yards[i].substring(0, place) + "cgwb".charAt(kind) + yards[i].substring(place + 1);
                    int sum = 0;
                    for (int second = 1; second <= n; second++) {
                        sum += stands(Check.told(other), second);
                    }
                    best = sum > most ? kind : best;
                    most = Math.max(most, sum);
                }
                wasBest[best] = true;
                CHECK.due(yards[i] + " hunt " + n, x.hunt(catcher[i], n, 0), best);
                CHECK.due(yards[i] + " sum " + n, x.hunt(catcher[i], n, 1), most);
            }
        }
        for (int kind = 0; kind <= 3; kind++) {
            CHECK.holds("a yard in which kind " + kind + " is best", wasBest[kind]);
        }
    }

    private static void huntOfSeveral() {
        for (String kind : new String[] {"kc", "kg", "kw", "kb"}) {
            TouchedAndStands x = Check.told(kind + "000;");
            CHECK.due("all alike: the first", x.hunt(0, 60, 0), 0);
            CHECK.due("nobody stands", x.hunt(0, 60, 1), 0);
        }
        TouchedAndStands full = Check.told("kb000;" + "kr230;".repeat(7) + "t1;t2;t3;t4;t5;t6;t7;");
        CHECK.due("now is none of 1 .. n", full.hunt(0, 1, 1), 7);
        CHECK.due("the greatest sum", full.hunt(0, 60, 1), 420);
    }

    /** The catchers more told anew, at cell 0; a yard for each answer. */
    private static void enough() {
        String[] yards = {"kw070;kr150;", "kh090;kf081;", "kr230;kp220;", "kh020;kp161;l3;", "kf050;kr091;"};
        int[] due = {0, 1, 2, 3, -9};
        for (int i = 0; i < yards.length; i++) {
            CHECK.due("the yard is right", enoughToldAnew(yards[i], 3), due[i]);
            CHECK.due(yards[i] + " enough", Check.told(yards[i]).enough(), due[i]);
        }
        CHECK.due("over now", Check.told("kr000;t0;").enough(), 0);
        String four = "kr103;kr203;kp151;kf103;l2;";
        CHECK.due("a yard for which it takes four", enoughToldAnew(four, 4), 4);
        CHECK.due("that is one more than are asked for", Check.told(four).enough(), -9);
    }

    /** One who waits afar is added till there is room for fewer than it takes. */
    private static void enoughAsThereIsRoom() {
        String two = "kr230;kp220;kr220;t2;kr220;t3;kr220;t4;kr220;t5;";
        TouchedAndStands six = Check.told(two);
        CHECK.due("six are there", six.count(0), 6);
        CHECK.due("it takes two", enoughToldAnew(two, 2), 2);
        CHECK.due("there is room for two", six.enough(), 2);
        TouchedAndStands seven = Check.told(two + "kr220;t6;");
        CHECK.due("there is room for one", seven.enough(), -9);
        CHECK.due("with one it is not over", Check.told(two + "kr220;t6;kc000;").over(), -9);
        TouchedAndStands one = Check.told("kr000;".repeat(7));
        CHECK.due("room for one, and it takes one", one.enough(), 1);
        CHECK.due("no room, and it takes one", Check.told("kr000;".repeat(8)).enough(), -9);
        CHECK.due("no room, and it takes none", Check.told("kr010;".repeat(7) + "kc000;t0;t1;t2;t3;t4;t5;").enough(), 0);
        String three = "kh131;kr012;kf100;kf020;kp220;t3;l2;";
        TouchedAndStands five = Check.told(three);
        CHECK.due("five are there", five.count(0), 5);
        CHECK.due("it takes three", enoughToldAnew(three, 3), 3);
        CHECK.due("there is room for three", five.enough(), 3);
        Check.tell(five, "kr000;t5;");
        CHECK.due("there is room for two", five.enough(), enoughToldAnew(three + "kr000;t5;", 2));
    }

    private static int enoughToldAnew(String yard, int room) {
        int least = -9;
        for (int more = room; more >= 0; more--) {
            least = Check.told(yard + "kc000;".repeat(more)).over() != -9 ? more : least;
        }
        return least;
    }

    /** The yards were found by lot and looked at by the model; each asks for another second. */
    private static void change() {
        String[] yards = {"kw070;kr150;", "kr001;kw140;", "kh031;kb090;", "kc071;kp021;l1;", "kb162;kr171;kh100;",
            "kf120;kp090;kw010;", "kg181;kr141;l1;", "kw061;kp140;l1;", "kw110;kr030;l1;"};
        int[] catcher = {0, 1, 1, 0, 0, 2, 0, 0, 0};
        int[] child = {1, 0, 0, 1, 1, 0, 1, 1, 1};
        int[] due = {0, 1, 2, 10, 19, 19, 20, 20, 20};
        for (int i = 0; i < yards.length; i++) {
            TouchedAndStands x = Check.told(yards[i]);
            CHECK.due(yards[i] + " change", x.change(catcher[i], child[i], 0), due[i]);
            CHECK.due(yards[i] + " how many", x.change(catcher[i], child[i], 1), i == 5 ? 2 : 1);
        }
        TouchedAndStands x = Check.told("kw000;kr010;kr050;kr060;t1;t2;t3;");
        CHECK.due("the new catcher runs, if he stood", x.change(0, 1, 1), 2);
        TouchedAndStands now = Check.told("kr000;kw010;kr050;kr060;t2;t3;");
        CHECK.due("told anew it is the same", stands(now, 30), 2);
        TouchedAndStands few = Check.told("kw161;kp020;kf212;");
        CHECK.due("behind 30 seconds from now, not from then", few.change(0, 1, 0), 3);
        TouchedAndStands none = Check.told("kg140;kf040;");
        CHECK.due("nobody stands by then: at once", none.change(0, 1, 0), 0);
        CHECK.due("nobody", none.change(0, 1, 1), 0);
    }

    /** In the first it would be best behind 21 seconds, which is one too late. */
    private static void changeOfSeveral() {
        TouchedAndStands late = Check.told("kr030;kr120;kc160;l1;");
        CHECK.due("none by second 20: of several the first", late.change(2, 0, 0), 0);
        CHECK.due("none", late.change(2, 0, 1), 0);
        TouchedAndStands alike = Check.told("kw000;kr230;kr230;kr230;t2;t3;");
        CHECK.due("always two: at once", alike.change(0, 1, 0), 0);
        CHECK.due("two", alike.change(0, 1, 1), 2);
    }

    /** The law told, then over(): not at all is later than behind 60. */
    private static void longest() {
        String[] yards = {"kh090;kf081;", "kw070;kr150;", "kr032;kb071;kp093;kp010;t0;", "kc161;kh221;kh022;",
            "kh012;kp022;kc061;", "kp152;kp141;kc000;", "kp041;kc080;kp192;", "kr010;t0;", "kr010;", "kc000;kr010;"};
        int[] due = {0, 1, 2, 3, 1, 1, 1, 0, 0, 1};
        for (int i = 0; i < yards.length; i++) {
            TouchedAndStands x = Check.told(yards[i]);
            CHECK.due(yards[i] + " longest", x.longest(), due[i]);
            int best = 0;
            int latest = -1;
            for (int law = 0; law <= 3; law++) {
                x.law(law);
                CHECK.due("whichever law there is", x.longest(), due[i]);
                int over = x.over() == -9 ? 61 : x.over();
                best = over > latest ? law : best;
                latest = Math.max(latest, over);
            }
            CHECK.due("law by law", best, due[i]);
        }
        TouchedAndStands sixty = Check.told("kh012;kp022;kc061;");
        CHECK.due("by law 0 behind 60", sixty.over(), 60);
        sixty.law(1);
        CHECK.due("by law 1 not at all", sixty.over(), -9);
    }

    private static void why() {
        TouchedAndStands x = Check.told("kf000;kr030;kc170;t1;");
        CHECK.due("he is fetched in the third: not in 2", x.why(1, 2), 3);
        CHECK.due("in 3", x.why(1, 3), 0);
        CHECK.due("in 60", x.why(1, 60), 0);
        CHECK.due("he runs behind the last alone", Check.told("kr000;kr230;t0;l3;").why(0, 1), 0);
        TouchedAndStands nine = new TouchedAndStands();
        nine.seconds(1);
        Check.tell(nine, "kr000;t0;l3;kf235;kc220;");
        CHECK.due("behind 9 he stands", nine.stand(9) & 1, 1);
        CHECK.due("in 9 he does not run", nine.why(0, 9), 3);
        CHECK.due("in 10 he does", nine.why(0, 10), 0);
        CHECK.due("0 is told ahead of 1", Check.told("kr000;t0;l3;").why(0, 60), 0);
        CHECK.due("1 is told ahead of 2", Check.told("kr000;kw000;t0;").why(0, 60), 1);
        CHECK.due("1 is told ahead of 3", Check.told("kr000;t0;").why(0, 60), 1);
        CHECK.due("a pal with him as friend, far off", Check.told("kr000;kp230;t0;").why(0, 1), 3);
        CHECK.due("a pal with another", Check.told("kr000;kp231;t0;").why(0, 60), 1);
        CHECK.due("a freer, far off", Check.told("kr000;kf230;t0;").why(0, 1), 3);
        CHECK.due("a runner and a hedger free nobody", Check.told("kr000;kr000;kh000;t0;").why(0, 60), 1);
        CHECK.due("he himself is no other", Check.told("kf000;t0;").why(0, 60), 1);
        CHECK.due("a catcher with him as friend", Check.told("kr000;kc230;t0;").why(0, 60), 1);
    }

    /** Behind one second: a waiter stays where it is, and the freer is not yet there. */
    private static void whyAtEachCell() {
        for (int cell = 0; cell < 24; cell++) {
            String waiter = "kw" + (cell < 10 ? "0" : "") + cell + "0;";
            TouchedAndStands x = Check.told(waiter + "kr080;kf230;t1;");
            boolean isNear = x.far(cell, 8) <= 1;
            CHECK.due("a waiter at " + cell, x.why(1, 1), isNear ? 2 : 3);
            TouchedAndStands two = Check.told(waiter + "kr080;kf230;kw000;t1;");
            CHECK.due("two catchers", two.why(1, 1), isNear ? 2 : 3);
        }
        TouchedAndStands comes = Check.told("kg060;kr080;kf230;t1;");
        CHECK.due("a guard who is in FAR 1 behind the first", comes.why(1, 1), 2);
        TouchedAndStands there = Check.told("kp050;kc052;kg102;kf071;t0;l3;");
        CHECK.due("he ran, was touched and stands elsewhere: a catcher is by him there", there.why(0, 3), 2);
        TouchedAndStands gone = Check.told("kp163;kf181;kc161;kw051;t0;l3;");
        CHECK.due("a catcher is by the cell where he stood alone", gone.why(0, 2), 3);
        TouchedAndStands late = Check.told("kg000;kr080;kf230;kw220;t1;");
        CHECK.due("a guard who is in FAR 1 behind the second alone", late.why(1, 2), 3);
    }

    /** The row beside stand(), and each cell by go(). */
    private static void rows() {
        for (String yard : YARDS) {
            for (int numbers = 0; numbers <= 20; numbers += 5) {
                for (int wrongAt = -1; wrongAt < numbers; wrongAt += 4) {
                    TouchedAndStands x = Check.told(yard);
                    int[] row = new int[numbers];
                    for (int i = 0; i < numbers; i++) {
                        row[i] = stands(x, i + 1);
                        row[i] = i == wrongAt ? (row[i] + 1) % 9 : row[i];
                        CHECK.due("row", x.row(row[i]), i + 1);
                    }
                    fitsOf(yard, x, row);
                    CHECK.due("the row stays", x.count(7), numbers);
                    CHECK.due(yard + " judged", x.judge(), wrongAt < 0 ? -9 : wrongAt);
                    CHECK.due("the row has none", x.count(7), 0);
                    CHECK.due("judged anew", x.judge(), -9);
                }
            }
        }
    }

    private static void fitsOf(String yard, TouchedAndStands x, int[] row) {
        int child = x.count(0) - 1;
        int due = 0;
        for (int cell = 0; cell < 24; cell++) {
            TouchedAndStands twin = Check.told(yard);
            twin.go(child, cell);
            boolean isSo = true;
            for (int i = 0; i < row.length; i++) {
                isSo = isSo && stands(twin, i + 1) == row[i];
            }
            due |= isSo ? 1 << cell : 0;
        }
        CHECK.due(yard + " fits", x.fits(child), due);
    }

    private static void rowOfTwenty() {
        TouchedAndStands x = Check.told("kr000;".repeat(8) + "t0;t1;t2;t3;t4;t5;t6;t7;");
        for (int i = 1; i <= 20; i++) {
            CHECK.due("8 is taken", x.row(8), i);
        }
        CHECK.due("all so, at each cell", x.fits(7), 16777215);
        CHECK.due("all so", x.judge(), -9);
        for (int i = 1; i <= 20; i++) {
            CHECK.due("there is room anew", x.row(i == 20 ? 7 : 8), i);
        }
        CHECK.due("no cell", x.fits(0), 0);
        CHECK.due("the last is not so", x.judge(), 19);
        CHECK.due("0 is taken", x.row(0), 1);
        CHECK.due("the first is not so", x.judge(), 0);
        TouchedAndStands nobody = new TouchedAndStands();
        nobody.row(0);
        CHECK.due("nobody: so", nobody.judge(), -9);
        nobody.row(1);
        CHECK.due("nobody: not so", nobody.judge(), 0);
        TouchedAndStands now = Check.told("kr000;t0;kf000;");
        now.row(1);
        CHECK.due("now is none of 1, 2, ..", now.judge(), 0);
    }

    /** The draws made here, the children told anew at their cells, from the second that it is. */
    private static void lots() {
        String[] kinds = {"rc", "fcr", "rfphcgwb", "bfr", "hgp"};
        int[] seeds = {0, 1, -1, 7, 255, 256, Integer.MIN_VALUE, Integer.MAX_VALUE, 20261118};
        for (String each : kinds) {
            for (int seed : seeds) {
                for (int law = 0; law <= 3; law++) {
                    int second = Math.floorMod(seed, 3) + law;
                    for (int n : new int[] {1, 2, 19, 20}) {
                        CHECK.due(each + " lots(" + n + ", " + seed + ")", lotsOf(each, law, second, n, seed),
                            drawn(each, law, second, n, seed));
                    }
                }
            }
        }
        CHECK.due("nobody", new TouchedAndStands().lots(20, 1), 0);
        TouchedAndStands tired = Check.told("kr080;kc060;");
        tired.seconds(9);
        CHECK.due("he is tired", tired.child(0, 4), 9);
        TouchedAndStands stands = Check.told("kr080;kc060;t0;");
        stands.seconds(9);
        tired.law(1);
        stands.law(1);
        for (int seed = 0; seed < 60; seed++) {
            CHECK.due("tired 0 in each", tired.lots(1, seed), drawn("rc", 1, 9, 1, seed));
            CHECK.due("running in each", stands.lots(1, seed), drawn("rc", 1, 9, 1, seed));
        }
        TouchedAndStands busy = Check.told("kb000;kf000;kr000;");
        for (int seed = 0; seed < 60; seed++) {
            busy.stand(seed);
            CHECK.due("from the second that it is, whatever was asked", busy.lots(2, seed), drawn("bfr", 0, 0, 2, seed));
        }
    }

    private static TouchedAndStands atSecond(int second) {
        TouchedAndStands x = new TouchedAndStands();
        if (second > 0) {
            x.seconds(second);
        }
        return x;
    }

    private static int lotsOf(String kinds, int law, int second, int n, int seed) {
        TouchedAndStands x = atSecond(second);
        StringBuilder text = new StringBuilder();
        for (char kind : kinds.toCharArray()) {
            text.append('k').append(kind).append("000;");
        }
        Check.tell(x, text.append('l').append(law).append(';').toString());
        return x.lots(n, seed);
    }

    private static int drawn(String kinds, int law, int second, int n, int seed) {
        int sum = 0;
        long z = seed;
        for (int i = 0; i < n; i++) {
            StringBuilder text = new StringBuilder();
            for (char kind : kinds.toCharArray()) {
                z = (int) (z * 1664525 + 1013904223);
                long cell = (z < 0 ? z + (1L << 31) : z) / 256 % 24;
                text.append('k').append(kind).append(cell < 10 ? "0" : "").append(cell).append("0;");
            }
            TouchedAndStands x = atSecond(second);
            Check.tell(x, text.append('l').append(law).append(';').toString());
            sum += stands(x, 30);
        }
        return sum;
    }
}
