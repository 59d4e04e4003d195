/** Counts the answers that are not as due; a test ends with exit code 1 if there was one. */
final class Check {
    private final String name;
    private int looked;
    private int wrong;

    Check(String name) {
        this.name = name;
    }

    void due(String what, long got, long want) {
        looked++;
        if (got != want) {
            wrong++;
            System.out.println(name + ": " + what + " answered " + got + ", due is " + want);
        }
    }

    void holds(String what, boolean isSo) {
        due(what, isSo ? 1 : 0, 1);
    }

    void same(String what, String got, String want) {
        looked++;
        if (!got.equals(want)) {
            wrong++;
            System.out.println(name + ": " + what + ":\n  got  " + got + "\n  due  " + want);
        }
    }

    int wrongOnes() {
        return wrong;
    }

    void end() {
        System.out.println(name + ": " + looked + " looked at, " + wrong + " not as due");
        if (wrong != 0) {
            System.exit(1);
        }
    }

    static int tell(TouchedAndStands x, String text) {
        for (char c : text.toCharArray()) {
            x.letter(c);
        }
        return x.yard();
    }

    /** A new object to which a yard was told that has no fault. */
    static TouchedAndStands told(String text) {
        TouchedAndStands x = new TouchedAndStands();
        int statements = tell(x, text);
        if (statements < 1) {
            throw new IllegalStateException("the test's own yard has a fault: " + text + " " + statements);
        }
        return x;
    }
}
