/** Promises 2 and 3: letters and the FAULTS of a YARD, letter by letter and number by number. */
public final class FaultTest {
    private static final Check CHECK = new Check("FaultTest");
    private static final String DIGITS = "0123456789";
    private static final String EIGHT = "kr000;".repeat(8);

    public static void main(String[] args) {
        eachLetterIsTaken();
        room();
        empty();
        eachLetterInEachPlace();
        somethingLacks();
        kindOneIsToldAhead();
        numbersOfAChild();
        numbersOfTheOthers();
        whoIsThere();
        roomForChildren();
        placeOfTheStatement();
        faultLeavesAll();
        CHECK.end();
    }

    private static void eachLetterIsTaken() {
        TouchedAndStands x = new TouchedAndStands();
        for (int c = 0; c <= 255; c++) {
            int place = c % 96;
            CHECK.due("letter(" + c + ")", x.letter(c), place + 1);
            if (place == 95) {
                CHECK.due("96 letters, the first is none", x.yard(), -1000);
            }
        }
        CHECK.due("64 letters, the first is none", x.yard(), -1000);
        CHECK.due("letter(0) is a letter", x.letter(0), 1);
        CHECK.due("letter(-1)", x.letter(-1), -4);
        CHECK.due("letter(256)", x.letter(256), -6);
        CHECK.due("256 is not 0", x.count(8), 1);
        CHECK.due("letter(255) is one", x.letter(255), 2);
    }

    private static void room() {
        TouchedAndStands x = new TouchedAndStands();
        for (int i = 1; i <= 96; i++) {
            CHECK.due("letter " + i, x.letter("l2;".charAt((i - 1) % 3)), i);
        }
        CHECK.due("letter 97", x.letter('l'), -6);
        CHECK.due("letter 98", x.letter(';'), -6);
        CHECK.due("the full yard", x.yard(), 32);
        CHECK.due("law", x.count(4), 2);
        CHECK.due("letters behind it", x.count(8), 0);
        CHECK.due("and there is room anew", x.letter('l'), 1);
        CHECK.due("one letter lacks", new TouchedAndStands().yard(), -1000);
        CHECK.due("96 letters and something lacks", told("l2;".repeat(31) + "kr0"), -1096);
        CHECK.due("96 letters, the last is wrong", told("l2;".repeat(31) + "l2l"), -1095);
        CHECK.due("a 97th would have been right", told("l2;".repeat(30) + "g000;" + "l" + ";"), -1096);
    }

    private static void empty() {
        TouchedAndStands x = Check.told("kr000;l1;");
        CHECK.due("no letter: at least one STATEMENT", x.yard(), -1000);
        CHECK.due("again", x.yard(), -1000);
        CHECK.due("a ; alone", Check.tell(x, ";"), -1000);
        CHECK.due("two ;", Check.tell(x, "l1;;"), -1003);
        CHECK.due("who was there is there", x.count(0) * 10 + x.count(4), 11);
    }

    /** Ahead of each letter of each statement: the 256 letters that may come, and those with which it goes on. */
    private static void eachLetterInEachPlace() {
        String[] ahead = {"", "k", "kr", "kr0", "kr00", "kr000", "t", "t0", "l", "l0", "g", "g0", "g00", "g000",
            "kr000;", "l0;t", "l0;kb23"};
        String[] goesOn = {"ktlg", "rfphcgwb", DIGITS, DIGITS, DIGITS, ";", DIGITS, ";", DIGITS, ";", DIGITS, DIGITS,
            DIGITS, ";", "ktlg", DIGITS, DIGITS};
        for (int i = 0; i < ahead.length; i++) {
            for (int c = 0; c <= 255; c++) {
                TouchedAndStands x = Check.told("kr000;");
                int answer = Check.tell(x, ahead[i] + (char) c);
                boolean isWhole = c == ';' && goesOn[i].equals(";");
                int place = goesOn[i].indexOf(c) >= 0 ? ahead[i].length() + 1 : ahead[i].length();
                CHECK.due("\"" + ahead[i] + "\" and letter " + c, answer, isWhole ? 1 : -1000 - place);
            }
        }
    }

    private static void somethingLacks() {
        String text = "kr000;t0;l1;g023;";
        String ends = ";";
        int statements = 0;
        for (int end = 1; end <= text.length(); end++) {
            boolean isWhole = ends.indexOf(text.charAt(end - 1)) >= 0;
            statements += isWhole ? 1 : 0;
            int due = isWhole ? statements : -1000 - end;
            CHECK.due("the first " + end + " of " + text, told(text.substring(0, end)), due);
        }
    }

    private static void kindOneIsToldAhead() {
        CHECK.due("a fault of kind 2, then something lacks", told("l4;l"), -1004);
        CHECK.due("a fault of kind 2, then a wrong letter", told("t0;kr990;x"), -1009);
        CHECK.due("the first wrong letter of several", told("l4;xyz"), -1003);
        CHECK.due("a wrong letter, then a fault of kind 2", told("l0l4;"), -1002);
        CHECK.due("a fault of kind 2 at the end of 96", told("l3;".repeat(31) + "l4;"), -2093);
    }

    private static void numbersOfAChild() {
        for (int cell = 0; cell <= 99; cell++) {
            TouchedAndStands x = new TouchedAndStands();
            CHECK.due("a child at cell " + cell, Check.tell(x, "kc" + two(cell) + "0;"), cell <= 23 ? 1 : -2000);
            CHECK.due("he is there " + cell, x.child(0, 1), cell <= 23 ? cell : -1);
        }
        for (int friend = 0; friend <= 9; friend++) {
            TouchedAndStands x = new TouchedAndStands();
            CHECK.due("a friend " + friend, Check.tell(x, "kp00" + friend + ";"), friend <= 7 ? 1 : -2000);
            CHECK.due("who need not be there " + friend, x.child(0, 2), friend <= 7 ? friend : -1);
        }
        String kinds = "rfphcgwb";
        for (int kind = 0; kind <= 7; kind++) {
            TouchedAndStands x = new TouchedAndStands();
            CHECK.due("kind " + kind, Check.tell(x, "k" + kinds.charAt(kind) + "117;"), 1);
            CHECK.due("kind", x.child(0, 0), kind);
            CHECK.due("cell", x.child(0, 1), 11);
            CHECK.due("friend", x.child(0, 2), 7);
            CHECK.due("all run at first", x.child(0, 3), 0);
            CHECK.due("none is tired at first", x.child(0, 4), 0);
        }
    }

    private static void numbersOfTheOthers() {
        for (int law = 0; law <= 9; law++) {
            TouchedAndStands x = Check.told("l1;");
            CHECK.due("law " + law, Check.tell(x, "l" + law + ";"), law <= 3 ? 1 : -2000);
            CHECK.due("it holds", x.count(4), law <= 3 ? law : 1);
        }
        for (int cell = 0; cell <= 99; cell++) {
            TouchedAndStands x = Check.told("kr050;kc060;");
            CHECK.due("g to " + cell, Check.tell(x, "g0" + two(cell) + ";"), cell <= 23 ? 1 : -2000);
            CHECK.due("he is there", x.child(0, 1), cell <= 23 ? cell : 5);
            CHECK.due("a catcher, too", Check.tell(x, "g1" + two(cell) + ";"), cell <= 23 ? 1 : -2000);
            CHECK.due("he is there", x.child(1, 1), cell <= 23 ? cell : 6);
        }
    }

    /** With 0, 1 .. 8 children there, "t" and "g" of each digit. */
    private static void whoIsThere() {
        for (int children = 0; children <= 8; children++) {
            for (int child = 0; child <= 9; child++) {
                TouchedAndStands x = new TouchedAndStands();
                Check.tell(x, EIGHT.substring(0, 6 * children));
                int due = child < children ? 1 : -2000;
                CHECK.due("t" + child + " of " + children, Check.tell(x, "t" + child + ";"), due);
                CHECK.due("who stands", x.stand(0), child < children ? 1 << child : 0);
                CHECK.due("g" + child + " of " + children, Check.tell(x, "g" + child + "23;"), due);
            }
        }
        String[] catchers = {"kc000;", "kg000;", "kw000;", "kb000;"};
        for (String catcher : catchers) {
            CHECK.due("t of a catcher of the same text", told(catcher + "t0;"), -2006);
            CHECK.due("t of a catcher who was there", Check.tell(Check.told(catcher), "t0;"), -2000);
        }
        for (String other : new String[] {"kr000;", "kf000;", "kp000;", "kh000;"}) {
            TouchedAndStands x = new TouchedAndStands();
            CHECK.due("t of another", Check.tell(x, other + "t0;"), 2);
            CHECK.due("he stands", x.child(0, 3), 1);
            CHECK.due("t again", Check.tell(x, "t0;"), 1);
            CHECK.due("he runs", x.child(0, 3), 0);
        }
        CHECK.due("t behind him", told("kr000;t0;"), 2);
        CHECK.due("t ahead of him", told("t0;kr000;"), -2000);
        CHECK.due("g behind him", told("kr000;g023;"), 2);
        CHECK.due("g ahead of him", told("g023;kr000;"), -2000);
    }

    private static void roomForChildren() {
        for (int there = 0; there <= 8; there++) {
            for (int more = 1; more <= 10; more++) {
                TouchedAndStands x = new TouchedAndStands();
                Check.tell(x, EIGHT.substring(0, 6 * there));
                boolean isRoom = there + more <= 8;
                int due = isRoom ? more : -2000 - 6 * (8 - there);
                CHECK.due(more + " more than " + there, Check.tell(x, "kc230;".repeat(more)), due);
                CHECK.due("how many there are", x.count(0), isRoom ? there + more : there);
            }
        }
        TouchedAndStands x = Check.told(EIGHT);
        CHECK.due("with eight, the others go on", Check.tell(x, "t7;g723;l3;"), 3);
        CHECK.due("the eighth", x.child(7, 1) * 10 + x.child(7, 3), 231);
        CHECK.due("no ninth", x.child(8, 0), -1);
        CHECK.due("wrong and no room: one fault", Check.tell(x, "l0;kr990;"), -2003);
    }

    private static void placeOfTheStatement() {
        CHECK.due("behind an l", told("l0;l4;"), -2003);
        CHECK.due("behind a t", told("kr000;t0;l4;"), -2009);
        CHECK.due("behind a g", told("kr000;g000;l4;"), -2011);
        CHECK.due("behind a k", told("kr000;l4;"), -2006);
        CHECK.due("the first of several", told("kr000;l4;t9;g000;kr990;"), -2006);
        CHECK.due("behind all ahead of it: he came there", told("kr000;t1;kr000;"), -2006);
        CHECK.due("17 that are right", told(EIGHT + "g000;".repeat(9)), 17);
        CHECK.due("and an 18th that is not", told(EIGHT + "g000;".repeat(9) + "l4;"), -2093);
    }

    private static void faultLeavesAll() {
        String before = Look.open(States.some());
        String[] texts = {"", ";", "kr000;t1;g023;l1", "kr000;t0;g123;l1;l4;", "g323;t3;t9;", "kr000;".repeat(5)};
        for (String text : texts) {
            TouchedAndStands x = States.some();
            x.judge();
            TouchedAndStands twin = States.some();
            twin.judge();
            x.yard();
            twin.yard();
            CHECK.holds("\"" + text + "\" has a fault", Check.tell(x, text) <= -1000);
            CHECK.same("nothing of \"" + text + "\" comes", Look.open(x), Look.open(twin));
            for (int counted = 11; counted <= 16; counted++) {
                CHECK.due("a fault is not counted", x.count(counted), 0);
            }
            CHECK.due("it may be told rightly then", Check.tell(x, "l3;"), 1);
        }
        TouchedAndStands x = States.some();
        CHECK.due("a fault by what came before", x.yard(), -1002);
        CHECK.due("letters", x.count(8), 0);
        CHECK.holds("there was something to leave", before.length() > 100);
        CHECK.due("behind no fault, too", Check.tell(x, "t0;") * 10 + x.count(8), 10);
        CHECK.due("row and image stay", x.count(7) * 10 + x.on(), 25);
    }

    private static int told(String text) {
        return Check.tell(new TouchedAndStands(), text);
    }

    private static String two(int cell) {
        return (cell < 10 ? "0" : "") + cell;
    }
}
