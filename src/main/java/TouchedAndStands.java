/**
 * Touched, and stands till he's freed: a yard of 24 cells, children who run, hide and free,
 * catchers who hunt, guard and lie in wait, and what comes of it second by second.
 */
public final class TouchedAndStands {

    private static final int NOBODY = -1;
    private static final int OTHER = -2;
    private static final int STATE = -3;
    private static final int BELOW = -4;
    private static final int ROOM = -6;
    private static final int NONE = -9;

    /** worth() and debt() may rightly be below 0, so what they refuse is told up here. */
    private static final int REFUSED_INT = 1000000000;
    private static final long REFUSED_LONG = 4000000000000000000L;

    private static final int FAULT_OF_LETTER = -1000;
    private static final int FAULT_OF_STATEMENT = -2000;

    private static final int SECONDS_AHEAD = 60;
    private static final int SECOND_MOST = 999;
    private static final int WORTH_SECONDS = 20;
    private static final int CATCHERS_MORE = 3;
    private static final int CHANGE_LATEST = 20;
    private static final int BREAK_SECONDS = 30;
    private static final int BREAKS = 20;
    private static final int ROW_MOST = 20;
    private static final int REFUSALS = 6;

    private final Yard now = new Yard();
    private final Yard mind = new Yard();
    private final Yard branch = new Yard();
    private final Yard kept = new Yard();
    private boolean isKept;
    private final Letters told = new Letters();
    private final int[] numbers = new int[ROW_MOST];
    private int numbersTold;
    private final int[] refused = new int[REFUSALS + 1];

    /** Nobody is there. */
    public TouchedAndStands() {
    }

    /** A letter of a yard comes. */
    public int letter(int c) {
        if (c < 0) {
            return refuse(BELOW);
        }
        if (c > Letters.SIGN_MOST || !told.hasRoom()) {
            return refuse(ROOM);
        }
        return told.hear(c);
    }

    /** The letters become a yard, or tell the fault for which none of them counts. */
    public int yard() {
        int answer = readLetters();
        told.forget();
        return answer;
    }

    /** What is so of a child: kind, cell, friend, whether he stands, how tired he is. */
    public int child(int child, int what) {
        if (!now.has(child)) {
            return refuse(NOBODY);
        }
        switch (what) {
            case 0:
                return now.kindOf(child);
            case 1:
                return now.cellOf(child);
            case 2:
                return now.friendOf(child);
            case 3:
                return now.isStanding(child) ? 1 : 0;
            case 4:
                return now.tiredOf(child);
            default:
                return refuse(OTHER);
        }
    }

    /** Puts a child at a cell. */
    public int go(int child, int cell) {
        if (!now.has(child) || !Yard.isCell(cell)) {
            return refuse(NOBODY);
        }
        int before = now.cellOf(child);
        now.put(child, cell);
        return before;
    }

    /** One who runs stands, one who stands runs. */
    public int touch(int child) {
        if (!now.has(child)) {
            return refuse(NOBODY);
        }
        if (!now.turnOver(child)) {
            return refuse(STATE);
        }
        return now.isStanding(child) ? 1 : 0;
    }

    /** Another law. */
    public int law(int v) {
        int before = now.lawNow();
        return now.setLaw(v) ? before : refuse(OTHER);
    }

    /** Rows and columns between two cells. */
    public int far(int one, int other) {
        if (!Yard.isCell(one) || !Yard.isCell(other)) {
            return refuse(NOBODY);
        }
        return Yard.apart(one, other);
    }

    /** Seconds go by. */
    public int seconds(int n) {
        int wrong = outside(n, 1, SECONDS_AHEAD);
        if (wrong == 0 && now.secondNow() + n > SECOND_MOST) {
            wrong = ROOM;
        }
        if (wrong != 0) {
            return refuse(wrong);
        }
        now.passMany(n);
        return now.secondNow();
    }

    /** Who stands behind n seconds. */
    public int stand(int n) {
        int wrong = outside(n, 0, SECONDS_AHEAD);
        if (wrong != 0) {
            return refuse(wrong);
        }
        mind.copyFrom(now);
        mind.passMany(n);
        return mind.standingBits();
    }

    /** Where a child is behind n seconds. */
    public int where(int child, int n) {
        int wrong = now.has(child) ? outside(n, 0, SECONDS_AHEAD) : NOBODY;
        if (wrong != 0) {
            return refuse(wrong);
        }
        mind.copyFrom(now);
        mind.passMany(n);
        return mind.cellOf(child);
    }

    /** Behind how many seconds all stand. */
    public int over() {
        if (!now.hasPlayers()) {
            return refuse(STATE);
        }
        mind.copyFrom(now);
        return secondsTillOver();
    }

    /** How many stand in the mean, as a fraction. */
    public long mean(int n, int part) {
        int wrong = outside(n, 0, SECONDS_AHEAD);
        if (wrong == 0 && part != 0 && part != 1) {
            wrong = OTHER;
        }
        if (wrong != 0) {
            return REFUSED_LONG - refuse(wrong);
        }
        mind.copyFrom(now);
        int sum = mind.standingCount() + standingOver(n);
        int times = n + 1;
        int shared = greatestShared(sum, times);
        return part == 0 ? sum / shared : times / shared;
    }

    /** How often one frees another in n seconds. */
    public int frees(int n) {
        int wrong = outside(n, 0, SECONDS_AHEAD);
        if (wrong != 0) {
            return refuse(wrong);
        }
        mind.copyFrom(now);
        mind.passMany(n);
        return mind.freeingsSinceCopied();
    }

    /** Who stands behind each of 1 to n seconds. */
    public int never(int n) {
        int wrong = outside(n, 0, SECONDS_AHEAD);
        if (wrong != 0) {
            return refuse(wrong);
        }
        if (n == 0) {
            return now.standingBits();
        }
        mind.copyFrom(now);
        int bits = -1;
        for (int second = 1; second <= n; second++) {
            mind.pass();
            bits &= mind.standingBits();
        }
        return bits;
    }

    /** Whom a child could free at once. */
    public int mayFree(int child) {
        if (!now.has(child)) {
            return refuse(NOBODY);
        }
        return now.couldFree(child);
    }

    /** How many more the others stand without a child. */
    public int worth(int child) {
        int wrong = !now.has(child) ? NOBODY : now.isCatcher(child) ? STATE : 0;
        if (wrong != 0) {
            return REFUSED_INT - refuse(wrong);
        }
        mind.copyFrom(now);
        int asItIs = othersStanding(child);
        mind.copyFrom(now);
        mind.setAside(child);
        return othersStanding(child) - asItIs;
    }

    /** Which kind a catcher should be. */
    public int hunt(int child, int n, int what) {
        int wrong = !now.has(child) ? NOBODY : !now.isCatcher(child) ? STATE : outside(n, 1, SECONDS_AHEAD);
        if (wrong == 0 && what != 0 && what != 1) {
            wrong = OTHER;
        }
        if (wrong != 0) {
            return refuse(wrong);
        }
        int best = 0;
        int most = -1;
        for (int k = 0; k < Yard.CATCHING_KINDS; k++) {
            mind.copyFrom(now);
            mind.setKind(child, Yard.CATCHER + k);
            int sum = standingOver(n);
            if (sum > most) {
                most = sum;
                best = k;
            }
        }
        return what == 0 ? best : most;
    }

    /** How many catchers more it takes. */
    public int enough() {
        if (!now.hasPlayers()) {
            return refuse(STATE);
        }
        for (int more = 0; more <= CATCHERS_MORE; more++) {
            mind.copyFrom(now);
            if (!addCatchers(more)) {
                return NONE;
            }
            if (secondsTillOver() != NONE) {
                return more;
            }
        }
        return NONE;
    }

    /** When a catcher and one who is none should change kinds. */
    public int change(int catcher, int child, int what) {
        int wrong = !now.has(catcher) || !now.has(child) ? NOBODY : 0;
        if (wrong == 0 && (!now.isCatcher(catcher) || now.isCatcher(child))) {
            wrong = STATE;
        }
        if (wrong == 0 && what != 0 && what != 1) {
            wrong = OTHER;
        }
        if (wrong != 0) {
            return refuse(wrong);
        }
        int best = 0;
        int most = -1;
        mind.copyFrom(now);
        for (int second = 0; second <= CHANGE_LATEST; second++) {
            branch.copyFrom(mind);
            branch.exchange(catcher, child);
            branch.passMany(BREAK_SECONDS - second);
            if (branch.standingCount() > most) {
                most = branch.standingCount();
                best = second;
            }
            mind.pass();
        }
        return what == 0 ? best : most;
    }

    /** The law by which it lasts longest. */
    public int longest() {
        if (!now.hasPlayers()) {
            return refuse(STATE);
        }
        int best = 0;
        int latest = -1;
        for (int law = 0; law < Yard.LAWS; law++) {
            mind.copyFrom(now);
            mind.setLaw(law);
            int till = secondsTillOver();
            int lasts = till == NONE ? SECONDS_AHEAD + 1 : till;
            if (lasts > latest) {
                latest = lasts;
                best = law;
            }
        }
        return best;
    }

    /** How often a child was freed by another. */
    public int owes(int child, int other) {
        if (!now.has(child) || !now.has(other)) {
            return refuse(NOBODY);
        }
        return now.freedBy(other, child);
    }

    /** How much more often a child freed than he was freed. */
    public int debt(int child) {
        if (!now.has(child)) {
            return REFUSED_INT - refuse(NOBODY);
        }
        int balance = 0;
        for (int other = 0; other < Yard.CHILDREN; other++) {
            balance += now.freedBy(child, other) - now.freedBy(other, child);
        }
        return balance;
    }

    /** Why one who stands is not fetched. */
    public int why(int child, int n) {
        int wrong = !now.has(child) ? NOBODY : !now.isStanding(child) ? STATE : outside(n, 1, SECONDS_AHEAD);
        if (wrong != 0) {
            return refuse(wrong);
        }
        mind.copyFrom(now);
        boolean isWatched = true;
        for (int second = 1; second <= n; second++) {
            mind.pass();
            if (!mind.isStanding(child)) {
                return 0;
            }
            isWatched = isWatched && mind.catcherApart(mind.cellOf(child)) <= 1;
        }
        if (!now.hasFreerFor(child)) {
            return 1;
        }
        return isWatched ? 2 : 3;
    }

    /** A number more of the row. */
    public int row(int v) {
        int wrong = outside(v, 0, Yard.CHILDREN);
        if (wrong == 0 && numbersTold >= numbers.length) {
            wrong = ROOM;
        }
        if (wrong != 0) {
            return refuse(wrong);
        }
        numbers[numbersTold] = v;
        numbersTold++;
        return numbersTold;
    }

    /** At which cells a child may be, by the row. */
    public int fits(int child) {
        if (!now.has(child)) {
            return refuse(NOBODY);
        }
        int bits = 0;
        for (int cell = 0; cell < Yard.CELLS; cell++) {
            mind.copyFrom(now);
            mind.put(child, cell);
            if (firstUntrue() == NONE) {
                bits |= 1 << cell;
            }
        }
        return bits;
    }

    /** The first number of the row that is not so. */
    public int judge() {
        mind.copyFrom(now);
        int first = firstUntrue();
        numbersTold = 0;
        return first;
    }

    /** How many stand at the ends of breaks by lot. */
    public int lots(int n, int z) {
        int wrong = outside(n, 1, BREAKS);
        if (wrong != 0) {
            return refuse(wrong);
        }
        int sum = 0;
        int seed = z;
        for (int rest = n; rest > 0; rest--) {
            mind.copyFrom(now);
            seed = mind.scatter(seed);
            mind.passMany(BREAK_SECONDS);
            sum += mind.standingCount();
        }
        return sum;
    }

    /** The image is taken. */
    public int image() {
        kept.copyFrom(now);
        isKept = true;
        return now.secondNow();
    }

    /** On from the image. */
    public int on() {
        if (!isKept) {
            return refuse(STATE);
        }
        now.copyFrom(kept);
        return now.secondNow();
    }

    /** How many there are of something. */
    public int count(int what) {
        if (what > 10 && what <= 10 + REFUSALS) {
            return refused[what - 10];
        }
        switch (what) {
            case 0:
                return now.childrenCount();
            case 1:
                return now.catcherCount();
            case 2:
                return now.standingCount();
            case 3:
                return now.secondNow();
            case 4:
                return now.lawNow();
            case 5:
                return now.tiredSum();
            case 6:
                return now.freedSum();
            case 7:
                return numbersTold;
            case 8:
                return told.size();
            default:
                return NONE;
        }
    }

    private int refuse(int reason) {
        int place = -reason;
        if (place > 0 && place < refused.length) {
            refused[place]++;
        }
        return reason;
    }

    /** 0 for a number from the least to the greatest, else the refusal. */
    private static int outside(int n, int least, int greatest) {
        if (n < least) {
            return BELOW;
        }
        return n > greatest ? ROOM : 0;
    }

    /** Told to a copy first: with a fault nothing of the letters comes. */
    private int readLetters() {
        int misfit = told.firstMisfit();
        if (misfit != NONE) {
            return FAULT_OF_LETTER - misfit;
        }
        mind.copyFrom(now);
        int untrue = told.tellTo(mind);
        if (untrue != NONE) {
            return FAULT_OF_STATEMENT - untrue;
        }
        now.copyFrom(mind);
        return told.statementCount();
    }

    private int secondsTillOver() {
        for (int second = 0; second <= SECONDS_AHEAD; second++) {
            if (mind.isOver()) {
                return second;
            }
            mind.pass();
        }
        return NONE;
    }

    private int standingOver(int n) {
        int sum = 0;
        for (int second = 1; second <= n; second++) {
            mind.pass();
            sum += mind.standingCount();
        }
        return sum;
    }

    private int othersStanding(int child) {
        int sum = 0;
        for (int second = 1; second <= WORTH_SECONDS; second++) {
            mind.pass();
            sum += mind.standingCount() - (mind.isStanding(child) ? 1 : 0);
        }
        return sum;
    }

    private boolean addCatchers(int more) {
        for (int i = 0; i < more; i++) {
            if (!mind.add(Yard.CATCHER, 0, 0)) {
                return false;
            }
        }
        return true;
    }

    private int firstUntrue() {
        for (int place = 0; place < numbersTold; place++) {
            mind.pass();
            if (mind.standingCount() != numbers[place]) {
                return place;
            }
        }
        return NONE;
    }

    /** The greatest divisor of both; with a sum of 0 it is all of the times. */
    private static int greatestShared(int sum, int times) {
        for (int divisor = times; divisor > 1; divisor--) {
            if (sum % divisor == 0 && times % divisor == 0) {
                return divisor;
            }
        }
        return 1;
    }

    /** The letters that have come, and what they tell. */
    private static final class Letters {
        static final int SIGN_MOST = 255;
        private static final int MOST = 96;
        private static final char KIND = 'K';
        private static final char DIGIT = 'D';

        private final int[] signs = new int[MOST];
        private int heard;
        private int statements;

        boolean hasRoom() {
            return heard < MOST;
        }

        int size() {
            return heard;
        }

        int statementCount() {
            return statements;
        }

        int hear(int sign) {
            if (hasRoom()) {
                signs[heard] = sign;
                heard++;
            }
            return heard;
        }

        void forget() {
            heard = 0;
        }

        /** The place of the first letter with which no yard can go on. */
        int firstMisfit() {
            String shape = "";
            int part = 0;
            for (int place = 0; place < heard; place++) {
                if (part == shape.length()) {
                    shape = shapeAt(place);
                    part = 0;
                }
                if (part >= shape.length() || !fitsShape(signs[place], shape.charAt(part))) {
                    return place;
                }
                part++;
            }
            return heard > 0 && part == shape.length() ? NONE : heard;
        }

        /** Only for letters without a misfit: the place of the first statement that can't be so. */
        int tellTo(Yard yard) {
            statements = 0;
            for (int place = 0; place < heard; place += Math.max(1, shapeAt(place).length())) {
                if (!tellStatement(yard, place)) {
                    return place;
                }
                statements++;
            }
            return NONE;
        }

        private boolean tellStatement(Yard yard, int place) {
            switch (signAt(place)) {
                case 'k':
                    return yard.add(kindAt(place + 1), cellAt(place + 2), digitAt(place + 4));
                case 't':
                    return yard.turnOver(digitAt(place + 1));
                case 'l':
                    return yard.setLaw(digitAt(place + 1));
                case 'g':
                    return yard.put(digitAt(place + 1), cellAt(place + 2));
                default:
                    return false;
            }
        }

        private String shapeAt(int place) {
            switch (signAt(place)) {
                case 'k':
                    return "kKDDD;";
                case 't':
                    return "tD;";
                case 'l':
                    return "lD;";
                case 'g':
                    return "gDDD;";
                default:
                    return "";
            }
        }

        private static boolean fitsShape(int sign, char part) {
            if (part == KIND) {
                return Yard.KIND_LETTERS.indexOf((char) sign) >= 0;
            }
            if (part == DIGIT) {
                return sign >= '0' && sign <= '9';
            }
            return sign == part;
        }

        /** Behind the end there is a sign that fits nothing. */
        private int signAt(int place) {
            return place >= 0 && place < heard ? signs[place] : -1;
        }

        private int kindAt(int place) {
            return Yard.KIND_LETTERS.indexOf((char) signAt(place));
        }

        private int digitAt(int place) {
            return signAt(place) - '0';
        }

        private int cellAt(int place) {
            return 10 * digitAt(place) + digitAt(place + 1);
        }
    }

    /** All that an image keeps: the children, who freed whom, the law, the second. */
    private static final class Yard {
        static final int CHILDREN = 8;
        static final int CELLS = 24;
        static final int LAWS = 4;
        static final String KIND_LETTERS = "rfphcgwb";
        static final int CATCHER = 4;
        static final int CATCHING_KINDS = 4;

        private static final int FREER = 1;
        private static final int PAL = 2;
        private static final int HEDGER = 3;
        private static final int GUARD = 5;
        private static final int WAITER = 6;
        private static final int BUSY = 7;

        private static final int ROWS = 4;
        private static final int COLUMNS = 6;
        private static final int STEPS = 5;
        private static final int TIRED_MOST = 9;
        private static final int FREED_MOST = 99;
        private static final int NO_CELL = -1;
        private static final int EDGE_IS_SAFE = 1;
        private static final int FREES_ALL_BESIDE = 2;
        private static final int FREES_EACH_TENTH = 3;
        /** Farther than any two cells are. */
        private static final int FARTHEST = 99;

        private static final int EVERYBODY = -1;
        private static final int WITHOUT_SIGN = 0x7fffffff;

        private final int[] kinds = new int[CHILDREN];
        private final int[] cells = new int[CHILDREN];
        private final int[] friends = new int[CHILDREN];
        private final int[] tired = new int[CHILDREN];
        private final int[] freed = new int[CHILDREN * CHILDREN];
        private int children;
        private int standing;
        private int law;
        private int second;
        private int freeings;
        private int aside = NOBODY;

        /** All but what is only asked of a mind: the freeings are counted anew, nobody is set aside. */
        void copyFrom(Yard other) {
            System.arraycopy(other.kinds, 0, kinds, 0, CHILDREN);
            System.arraycopy(other.cells, 0, cells, 0, CHILDREN);
            System.arraycopy(other.friends, 0, friends, 0, CHILDREN);
            System.arraycopy(other.tired, 0, tired, 0, CHILDREN);
            System.arraycopy(other.freed, 0, freed, 0, CHILDREN * CHILDREN);
            children = other.children;
            standing = other.standing;
            law = other.law;
            second = other.second;
            freeings = 0;
            aside = NOBODY;
        }

        static boolean isCell(int cell) {
            return cell >= 0 && cell < CELLS;
        }

        static int apart(int one, int other) {
            int rows = one / COLUMNS - other / COLUMNS;
            int columns = one % COLUMNS - other % COLUMNS;
            return (rows < 0 ? -rows : rows) + (columns < 0 ? -columns : columns);
        }

        boolean has(int child) {
            return child >= 0 && child < children;
        }

        int kindOf(int child) {
            return has(child) ? kinds[child] : 0;
        }

        int cellOf(int child) {
            return has(child) ? cells[child] : 0;
        }

        int friendOf(int child) {
            return has(child) ? friends[child] : 0;
        }

        int tiredOf(int child) {
            return has(child) ? tired[child] : 0;
        }

        boolean isStanding(int child) {
            return has(child) && (standing >> child & 1) == 1;
        }

        boolean isCatcher(int child) {
            return has(child) && kinds[child] >= CATCHER;
        }

        int freedBy(int one, int whom) {
            return has(one) && has(whom) ? freed[CHILDREN * one + whom] : 0;
        }

        int childrenCount() {
            return children;
        }

        int standingBits() {
            return standing;
        }

        int standingCount() {
            return Integer.bitCount(standing);
        }

        int lawNow() {
            return law;
        }

        int secondNow() {
            return second;
        }

        int freeingsSinceCopied() {
            return freeings;
        }

        int catcherCount() {
            return children - Integer.bitCount(playerBits());
        }

        int tiredSum() {
            int sum = 0;
            for (int child = 0; child < children; child++) {
                sum += tired[child];
            }
            return sum;
        }

        int freedSum() {
            int sum = 0;
            for (int pair = 0; pair < freed.length; pair++) {
                sum += freed[pair];
            }
            return sum;
        }

        boolean hasPlayers() {
            return playerBits() != 0;
        }

        boolean isOver() {
            return hasPlayers() && standing == playerBits();
        }

        boolean add(int kind, int cell, int friend) {
            boolean isRight = kind >= 0 && kind < KIND_LETTERS.length() && isCell(cell)
                    && friend >= 0 && friend < CHILDREN;
            if (!isRight || children >= CHILDREN) {
                return false;
            }
            kinds[children] = kind;
            cells[children] = cell;
            friends[children] = friend;
            children++;
            return true;
        }

        boolean turnOver(int child) {
            if (!has(child) || isCatcher(child)) {
                return false;
            }
            standing ^= 1 << child;
            return true;
        }

        boolean setLaw(int v) {
            if (v < 0 || v >= LAWS) {
                return false;
            }
            law = v;
            return true;
        }

        boolean put(int child, int cell) {
            if (!has(child) || !isCell(cell)) {
                return false;
            }
            cells[child] = cell;
            return true;
        }

        void setKind(int child, int kind) {
            if (has(child)) {
                kinds[child] = kind;
            }
        }

        /** He does nothing from now on and can't be touched. */
        void setAside(int child) {
            aside = child;
        }

        void exchange(int catcher, int child) {
            if (has(catcher) && has(child)) {
                int kind = kinds[catcher];
                kinds[catcher] = kinds[child];
                kinds[child] = kind;
                letRun(child);
            }
        }

        /** All run at cells by lot; the seed behind the draws. */
        int scatter(int seed) {
            int z = seed;
            for (int child = 0; child < children; child++) {
                z = z * 1664525 + 1013904223;
                cells[child] = (z & WITHOUT_SIGN) / 256 % CELLS;
                tired[child] = 0;
            }
            standing = 0;
            return z;
        }

        int couldFree(int child) {
            if (!has(child) || isStanding(child)) {
                return NONE;
            }
            int whom = leastBeside(child, standing & freeableBits(child));
            return whom == NOBODY ? NONE : whom;
        }

        /** Whether another may free him by his kind: to free is to free another, so he himself is none. */
        boolean hasFreerFor(int child) {
            for (int one = 0; one < children; one++) {
                if (one != child && (freeableBits(one) >> child & 1) == 1) {
                    return true;
                }
            }
            return false;
        }

        /** How far the nearest catcher is from a cell. */
        int catcherApart(int cell) {
            int least = FARTHEST;
            for (int child = 0; child < children; child++) {
                if (kinds[child] >= CATCHER) {
                    least = Math.min(least, apart(cell, cells[child]));
                }
            }
            return least;
        }

        void passMany(int n) {
            for (int i = 0; i < n; i++) {
                pass();
            }
        }

        void pass() {
            if (law == FREES_EACH_TENTH && second % 10 == 0) {
                standing = 0;
            }
            for (int child = 0; child < children; child++) {
                if (isCatcher(child)) {
                    catcherActs(child);
                } else {
                    playerActs(child);
                }
            }
            second++;
        }

        private void playerActs(int one) {
            if (isStanding(one) || one == aside) {
                tire(one, -1);
                return;
            }
            if (tired[one] == TIRED_MOST) {
                tired[one] = 0;
                return;
            }
            int from = cells[one];
            boolean isBusy = false;
            if (kinds[one] == FREER || kinds[one] == PAL) {
                isBusy = freesOrFetches(one);
            } else if (kinds[one] == HEDGER) {
                isBusy = isEdge(from) && catcherApart(from) > 1;
            }
            if (!isBusy) {
                stepAway(one);
            }
            tire(one, cells[one] == from ? -1 : 1);
        }

        private void tire(int one, int more) {
            tired[one] = Math.max(0, Math.min(TIRED_MOST, tired[one] + more));
        }

        private boolean freesOrFetches(int one) {
            int wanted = standing & freeableBits(one);
            int beside = leastBeside(one, wanted);
            if (beside != NOBODY) {
                setFree(one, beside);
                return true;
            }
            int away = nearest(one, wanted);
            if (away == NOBODY || catcherApart(cells[one]) < 2) {
                return false;
            }
            stepToward(one, cells[away]);
            return true;
        }

        private void setFree(int one, int whom) {
            for (int other = 0; other < children; other++) {
                boolean isFreed = law == FREES_ALL_BESIDE ? apart(cells[one], cells[other]) <= 1 : other == whom;
                if (isFreed && (standing >> other & 1) == 1) {
                    letRun(other);
                    freeings++;
                    int pair = CHILDREN * one + other;
                    freed[pair] = Math.min(FREED_MOST, freed[pair] + 1);
                }
            }
        }

        private void catcherActs(int one) {
            int kind = kinds[one];
            if (kind == BUSY && second % 3 == 0) {
                return;
            }
            int beside = leastBeside(one, runningBits() & ~safeBits());
            if (beside != NOBODY) {
                standing |= 1 << beside;
            } else if (kind == WAITER && standing != 0) {
                return;
            } else if (kind == GUARD && standing != 0) {
                guards(one);
            } else {
                int runner = nearest(one, runningBits());
                if (runner != NOBODY) {
                    stepToward(one, cells[runner]);
                }
            }
        }

        private void guards(int one) {
            int held = nearest(one, standing);
            if (held != NOBODY && apart(cells[one], cells[held]) > 1) {
                stepToward(one, cells[held]);
            }
        }

        private void letRun(int child) {
            standing &= ~(1 << child);
        }

        private int leastBeside(int one, int bits) {
            for (int other = 0; other < children; other++) {
                if ((bits >> other & 1) == 1 && apart(cells[one], cells[other]) <= 1) {
                    return other;
                }
            }
            return NOBODY;
        }

        private int nearest(int one, int bits) {
            int found = NOBODY;
            int least = FARTHEST;
            for (int other = 0; other < children; other++) {
                int far = apart(cells[one], cells[other]);
                if ((bits >> other & 1) == 1 && far < least) {
                    least = far;
                    found = other;
                }
            }
            return found;
        }

        private int playerBits() {
            int bits = 0;
            for (int child = 0; child < children; child++) {
                if (kinds[child] < CATCHER) {
                    bits |= 1 << child;
                }
            }
            return bits;
        }

        private int runningBits() {
            return playerBits() & ~standing;
        }

        /** Who can't be touched. */
        private int safeBits() {
            int bits = 0;
            for (int child = 0; child < children; child++) {
                if (child == aside || law == EDGE_IS_SAFE && isEdge(cells[child])) {
                    bits |= 1 << child;
                }
            }
            return bits;
        }

        /** Whom one may free by his kind, whether they stand or not. */
        private int freeableBits(int one) {
            if (kinds[one] == FREER) {
                return EVERYBODY;
            }
            return kinds[one] == PAL ? 1 << friends[one] : 0;
        }

        private static boolean isEdge(int cell) {
            int row = cell / COLUMNS;
            int column = cell % COLUMNS;
            return row == 0 || row == ROWS - 1 || column == 0 || column == COLUMNS - 1;
        }

        private void stepAway(int one) {
            int best = cells[one];
            int most = -1;
            for (int step = 0; step < STEPS; step++) {
                int cell = cellBehind(cells[one], step);
                if (cell != NO_CELL && catcherApart(cell) > most) {
                    most = catcherApart(cell);
                    best = cell;
                }
            }
            cells[one] = best;
        }

        private void stepToward(int one, int goal) {
            int best = cells[one];
            int least = FARTHEST;
            for (int step = 0; step < STEPS; step++) {
                int cell = cellBehind(cells[one], step);
                if (cell != NO_CELL && apart(cell, goal) < least) {
                    least = apart(cell, goal);
                    best = cell;
                }
            }
            cells[one] = best;
        }

        /** Behind a step in the order stay, up, down, left, right. */
        private static int cellBehind(int cell, int step) {
            int row = cell / COLUMNS;
            int column = cell % COLUMNS;
            switch (step) {
                case 0:
                    return cell;
                case 1:
                    return row > 0 ? cell - COLUMNS : NO_CELL;
                case 2:
                    return row < ROWS - 1 ? cell + COLUMNS : NO_CELL;
                case 3:
                    return column > 0 ? cell - 1 : NO_CELL;
                case 4:
                    return column < COLUMNS - 1 ? cell + 1 : NO_CELL;
                default:
                    return NO_CELL;
            }
        }
    }
}
