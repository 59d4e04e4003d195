import java.util.Random;

/** All promises: runs of calls by a fixed lot, each answer beside that of the model. */
public final class ModelTest {
    private static final int RUNS = 1500;
    private static final int CALLS = 220;
    private static final String KINDS = "rfphcgwb";

    private final Check check = new Check("ModelTest");
    private final Random lot = new Random(20261118);
    private TouchedAndStands x;
    private Model m;
    private int run;

    public static void main(String[] args) {
        ModelTest test = new ModelTest();
        for (test.run = 0; test.run < RUNS && test.check.wrongOnes() < 20; test.run++) {
            test.oneRun();
        }
        test.check.end();
    }

    private void oneRun() {
        x = new TouchedAndStands();
        m = new Model();
        tell(goodYard());
        for (int i = 0; i < CALLS && check.wrongOnes() < 20; i++) {
            call(lot.nextInt(44));
        }
        for (int child = 0; child < 8; child++) {
            for (int what = 0; what < 5; what++) {
                due("child(" + child + ", " + what + ")", x.child(child, what), m.child(child, what));
            }
        }
        for (int what = -1; what < 18; what++) {
            due("count(" + what + ")", x.count(what), m.count(what));
        }
    }

    private void due(String what, long got, long want) {
        check.due("run " + run + ": " + what, got, want);
    }

    private void tell(String text) {
        for (char c : text.toCharArray()) {
            due("letter(" + (int) c + ")", x.letter(c), m.letter(c));
        }
        due("yard() of " + text, x.yard(), m.yard());
    }

    private String goodYard() {
        StringBuilder text = new StringBuilder();
        int children = 2 + lot.nextInt(7);
        for (int i = 0; i < children; i++) {
            text.append('k').append(KINDS.charAt(lot.nextInt(8))).append(cell()).append(lot.nextInt(children)).append(';');
        }
        text.append('l').append(lot.nextInt(4)).append(';');
        return text.toString();
    }

    private String cell() {
        int cell = lot.nextInt(24);
        return (cell < 10 ? "0" : "") + cell;
    }

    /** Statements that are mostly right, now and then with a letter lost or changed. */
    private String someYard() {
        StringBuilder text = new StringBuilder();
        for (int i = lot.nextInt(6); i >= 0; i--) {
            switch (lot.nextInt(4)) {
                case 0 -> text.append('k').append(KINDS.charAt(lot.nextInt(8))).append(cell()).append(lot.nextInt(9));
                case 1 -> text.append('t').append(lot.nextInt(9));
                case 2 -> text.append('l').append(lot.nextInt(5));
                default -> text.append('g').append(lot.nextInt(9)).append(lot.nextInt(3)).append(lot.nextInt(10));
            }
            text.append(';');
        }
        if (lot.nextInt(3) == 0) {
            text.deleteCharAt(lot.nextInt(text.length()));
        }
        if (lot.nextInt(3) == 0 && text.length() > 0) {
            text.setCharAt(lot.nextInt(text.length()), (char) lot.nextInt(256));
        }
        return text.toString();
    }

    /** Mostly one who is there; now and then a number far off. */
    private int who() {
        return lot.nextInt(20) == 0 ? odd() : lot.nextInt(8);
    }

    private int upTo(int most) {
        return lot.nextInt(15) == 0 ? odd() : lot.nextInt(most + 1);
    }

    private int odd() {
        int[] odd = {-1, -2, 8, 9, 24, 25, 60, 61, 62, 100, Integer.MIN_VALUE, Integer.MAX_VALUE, 0, 1, 2, 3, 4, 5};
        return odd[lot.nextInt(odd.length)];
    }

    private void call(int which) {
        int a = who();
        int b = who();
        int n = upTo(lot.nextBoolean() ? 60 : 12);
        int what = upTo(1);
        switch (which) {
            case 0 -> tell(someYard());
            case 1 -> due("letter", x.letter(a), m.letter(a));
            case 2 -> due("child", x.child(a, what), m.child(a, what));
            case 3, 4 -> {
                int cell = upTo(23);
                due("go", x.go(a, cell), m.go(a, cell));
            }
            case 5, 6, 7 -> due("touch", x.touch(a), m.touch(a));
            case 8 -> {
                int law = upTo(3);
                due("law", x.law(law), m.law(law));
            }
            case 9 -> due("far", x.far(n, a), m.far(n, a));
            case 10, 11, 12, 13, 14 -> due("seconds " + n, x.seconds(n), m.seconds(n));
            case 15 -> due("stand", x.stand(n), m.stand(n));
            case 16 -> due("where", x.where(a, n), m.where(a, n));
            case 17 -> due("over", x.over(), m.over());
            case 18 -> due("mean", x.mean(n, what), m.mean(n, what));
            case 19 -> due("frees", x.frees(n), m.frees(n));
            case 20 -> due("never", x.never(n), m.never(n));
            case 21, 22 -> due("mayFree", x.mayFree(a), m.mayFree(a));
            case 23 -> due("worth", x.worth(a), m.worth(a));
            case 24 -> due("hunt", x.hunt(a, n, what), m.hunt(a, n, what));
            case 25 -> due("enough", x.enough(), m.enough());
            case 26 -> due("change", x.change(a, b, what), m.change(a, b, what));
            case 27 -> due("longest", x.longest(), m.longest());
            case 28, 29 -> due("owes", x.owes(a, b), m.owes(a, b));
            case 30 -> due("debt", x.debt(a), m.debt(a));
            case 31, 32 -> due("why", x.why(a, n), m.why(a, n));
            case 33 -> due("row", x.row(n), m.row(n));
            case 34, 35 -> tellRow();
            case 36 -> due("fits", x.fits(a), m.fits(a));
            case 37 -> due("judge", x.judge(), m.judge());
            case 38 -> {
                int z = lot.nextInt();
                int breaks = upTo(20);
                due("lots", x.lots(breaks, z), m.lots(breaks, z));
            }
            case 39 -> due("image", x.image(), m.image());
            case 40 -> due("on", x.on(), m.on());
            case 41 -> due("odd row", x.row(a), m.row(a));
            case 42 -> due("odd law", x.law(a), m.law(a));
            default -> due("count", x.count(n), m.count(n));
        }
    }

    /** Numbers that are mostly so, that rows do not all end at their first. */
    private void tellRow() {
        int many = 1 + lot.nextInt(8);
        for (int i = 1; i <= many; i++) {
            int v = lot.nextInt(12) == 0 ? lot.nextInt(9) : Integer.bitCount(x.stand(i));
            m.stand(i);
            due("row(" + v + ")", x.row(v), m.row(v));
        }
    }
}
