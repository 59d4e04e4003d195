import java.util.ArrayList;
import java.util.List;
import java.util.function.IntPredicate;
import java.util.regex.Matcher;
import java.util.regex.Pattern;
import java.util.stream.IntStream;

/**
 * The document once more, written another way (children as objects of kinds, worlds that are copied,
 * a pattern for the yard), so that a slip in the class is not made here, too.
 */
final class Model {
    private static final Pattern YARD = Pattern.compile("(k[rfphcgwb][0-9]{3};|[tl][0-9];|g[0-9]{3};)+");
    private static final int FAR = 1000;

    private World now = new World();
    private World image;
    private String letters = "";
    private final List<Integer> row = new ArrayList<>();
    private final int[] refusals = new int[7];

    /** A child; what he does in his turn hangs on the class of his kind. */
    private static final class Kid {
        char kind;
        int cell;
        int friend;
        boolean stands;
        int tired;

        Kid copy() {
            Kid k = new Kid();
            k.kind = kind;
            k.cell = cell;
            k.friend = friend;
            k.stands = stands;
            k.tired = tired;
            return k;
        }

        boolean catches() {
            return "cgwb".indexOf(kind) >= 0;
        }

        boolean may(int whom) {
            return kind == 'f' || kind == 'p' && friend == whom;
        }
    }

    private static final class World {
        List<Kid> kids = new ArrayList<>();
        int law;
        int second;
        int[][] freed = new int[8][8];
        int frees;
        int aside = -1;

        World copy() {
            World w = new World();
            for (Kid k : kids) {
                w.kids.add(k.copy());
            }
            w.law = law;
            w.second = second;
            for (int i = 0; i < 8; i++) {
                w.freed[i] = freed[i].clone();
            }
            return w;
        }

        World after(int n) {
            World w = copy();
            for (int i = 0; i < n; i++) {
                w.step();
            }
            return w;
        }

        int bits() {
            return IntStream.range(0, kids.size()).filter(i -> kids.get(i).stands).map(i -> 1 << i).sum();
        }

        int standing() {
            return (int) kids.stream().filter(k -> k.stands).count();
        }

        long players() {
            return kids.stream().filter(k -> !k.catches()).count();
        }

        int over() {
            World w = copy();
            for (int s = 0; s <= 60; s++) {
                if (w.kids.stream().filter(k -> !k.catches()).allMatch(k -> k.stands)) {
                    return s;
                }
                w.step();
            }
            return -9;
        }

        int catcherFar(int cell) {
            return kids.stream().filter(Kid::catches).mapToInt(k -> apart(k.cell, cell)).min().orElse(FAR);
        }

        int least(int cell, IntPredicate wanted) {
            return IntStream.range(0, kids.size()).filter(wanted)
                .filter(i -> apart(kids.get(i).cell, cell) <= 1).findFirst().orElse(-1);
        }

        int nearest(int cell, IntPredicate wanted) {
            return IntStream.range(0, kids.size()).filter(wanted).boxed()
                .min((a, b) -> apart(kids.get(a).cell, cell) != apart(kids.get(b).cell, cell)
                    ? apart(kids.get(a).cell, cell) - apart(kids.get(b).cell, cell) : a - b).orElse(-1);
        }

        void step() {
            if (law == 3 && second % 10 == 0) {
                kids.forEach(k -> k.stands = false);
            }
            for (int i = 0; i < kids.size(); i++) {
                Kid k = kids.get(i);
                if (k.catches()) {
                    hunt(k);
                    continue;
                }
                int from = k.cell;
                boolean rests = !k.stands && k.tired == 9 && i != aside;
                if (!k.stands && !rests && i != aside) {
                    play(i, k);
                }
                k.tired = rests ? 0 : Math.max(0, Math.min(9, k.tired + (k.cell != from ? 1 : -1)));
            }
            second++;
        }

        void play(int i, Kid k) {
            if (k.kind == 'f' || k.kind == 'p') {
                IntPredicate wanted = j -> kids.get(j).stands && k.may(j);
                int beside = least(k.cell, wanted);
                if (beside >= 0) {
                    for (int j = 0; j < kids.size(); j++) {
                        Kid o = kids.get(j);
                        if (o.stands && (j == beside || law == 2 && apart(o.cell, k.cell) <= 1)) {
                            o.stands = false;
                            frees++;
                            freed[i][j] = Math.min(99, freed[i][j] + 1);
                        }
                    }
                    return;
                }
                int away = nearest(k.cell, wanted);
                if (away >= 0 && catcherFar(k.cell) >= 2) {
                    k.cell = toward(k.cell, kids.get(away).cell);
                    return;
                }
            }
            if (k.kind == 'h' && edge(k.cell) && catcherFar(k.cell) > 1) {
                return;
            }
            k.cell = steps(k.cell).stream().max((a, b) -> catcherFar(a) != catcherFar(b)
                ? catcherFar(a) - catcherFar(b) : steps(k.cell).indexOf(b) - steps(k.cell).indexOf(a)).get();
        }

        void hunt(Kid k) {
            if (k.kind == 'b' && second % 3 == 0) {
                return;
            }
            IntPredicate runs = j -> !kids.get(j).stands && !kids.get(j).catches();
            int got = least(k.cell, runs.and(j -> j != aside && !(law == 1 && edge(kids.get(j).cell))));
            if (got >= 0) {
                kids.get(got).stands = true;
                return;
            }
            if (bits() != 0 && k.kind == 'w') {
                return;
            }
            if (bits() != 0 && k.kind == 'g') {
                int held = kids.get(nearest(k.cell, j -> kids.get(j).stands)).cell;
                k.cell = apart(held, k.cell) <= 1 ? k.cell : toward(k.cell, held);
                return;
            }
            int prey = nearest(k.cell, runs);
            k.cell = prey < 0 ? k.cell : toward(k.cell, kids.get(prey).cell);
        }
    }

    private static int apart(int a, int b) {
        return Math.abs(a / 6 - b / 6) + Math.abs(a % 6 - b % 6);
    }

    private static boolean edge(int cell) {
        return cell < 6 || cell > 17 || cell % 6 == 0 || cell % 6 == 5;
    }

    private static List<Integer> steps(int cell) {
        List<Integer> all = new ArrayList<>(List.of(cell));
        for (int other : new int[] {cell - 6, cell + 6, cell - 1, cell + 1}) {
            if (other >= 0 && other < 24 && apart(cell, other) == 1) {
                all.add(other);
            }
        }
        return all;
    }

    private static int toward(int cell, int goal) {
        int best = cell;
        for (int other : steps(cell)) {
            best = apart(other, goal) < apart(best, goal) ? other : best;
        }
        return best;
    }

    private int refuse(int why) {
        refusals[-why]++;
        return why;
    }

    private boolean no(int child) {
        return child < 0 || child >= now.kids.size();
    }

    private static boolean noCell(int cell) {
        return cell < 0 || cell > 23;
    }

    int letter(int c) {
        if (c < 0) {
            return refuse(-4);
        }
        if (c > 255 || letters.length() == 96) {
            return refuse(-6);
        }
        letters += (char) c;
        return letters.length();
    }

    int yard() {
        String text = letters;
        letters = "";
        for (int end = 1; end <= text.length(); end++) {
            Matcher m = YARD.matcher(text.substring(0, end));
            if (!m.matches() && !m.hitEnd()) {
                return -1000 - (end - 1);
            }
        }
        if (!YARD.matcher(text).matches()) {
            return -1000 - text.length();
        }
        World w = now.copy();
        int place = 0;
        int statements = 0;
        for (String part : text.split(";")) {
            if (!statement(w, part)) {
                return -2000 - place;
            }
            place += part.length() + 1;
            statements++;
        }
        now = w;
        return statements;
    }

    private static boolean statement(World w, String s) {
        int digits = Integer.parseInt(s.replaceAll("[a-z]", ""));
        switch (s.charAt(0)) {
            case 'k': {
                Kid k = new Kid();
                k.kind = s.charAt(1);
                k.cell = digits / 10;
                k.friend = digits % 10;
                w.kids.add(k);
                return k.cell < 24 && k.friend < 8 && w.kids.size() <= 8;
            }
            case 't':
                if (digits >= w.kids.size() || w.kids.get(digits).catches()) {
                    return false;
                }
                w.kids.get(digits).stands = !w.kids.get(digits).stands;
                return true;
            case 'l':
                w.law = digits;
                return digits < 4;
            default:
                if (digits / 100 >= w.kids.size() || digits % 100 > 23) {
                    return false;
                }
                w.kids.get(digits / 100).cell = digits % 100;
                return true;
        }
    }

    int child(int child, int what) {
        if (no(child)) {
            return refuse(-1);
        }
        Kid k = now.kids.get(child);
        int[] all = {"rfphcgwb".indexOf(k.kind), k.cell, k.friend, k.stands ? 1 : 0, k.tired};
        return what < 0 || what > 4 ? refuse(-2) : all[what];
    }

    int go(int child, int cell) {
        if (no(child) || noCell(cell)) {
            return refuse(-1);
        }
        int was = now.kids.get(child).cell;
        now.kids.get(child).cell = cell;
        return was;
    }

    int touch(int child) {
        if (no(child)) {
            return refuse(-1);
        }
        Kid k = now.kids.get(child);
        if (k.catches()) {
            return refuse(-3);
        }
        k.stands = !k.stands;
        return k.stands ? 1 : 0;
    }

    int law(int v) {
        if (v < 0 || v > 3) {
            return refuse(-2);
        }
        int was = now.law;
        now.law = v;
        return was;
    }

    int far(int one, int other) {
        return noCell(one) || noCell(other) ? refuse(-1) : apart(one, other);
    }

    int seconds(int n) {
        if (n < 1) {
            return refuse(-4);
        }
        if (n > 60 || now.second + n > 999) {
            return refuse(-6);
        }
        now = now.after(n);
        return now.second;
    }

    private int ahead(int n, int least, int most) {
        return n < least ? refuse(-4) : n > most ? refuse(-6) : 0;
    }

    int stand(int n) {
        int no = ahead(n, 0, 60);
        return no != 0 ? no : now.after(n).bits();
    }

    int where(int child, int n) {
        int no = no(child) ? refuse(-1) : ahead(n, 0, 60);
        return no != 0 ? no : now.after(n).kids.get(child).cell;
    }

    int over() {
        return now.players() == 0 ? refuse(-3) : now.over();
    }

    long mean(int n, int part) {
        int no = ahead(n, 0, 60);
        no = no == 0 && (part < 0 || part > 1) ? refuse(-2) : no;
        if (no != 0) {
            return 4000000000000000000L - no;
        }
        long sum = IntStream.rangeClosed(0, n).map(s -> now.after(s).standing()).sum();
        long a = sum;
        long b = n + 1;
        while (b != 0) {
            long c = a % b;
            a = b;
            b = c;
        }
        return (part == 0 ? sum : n + 1) / a;
    }

    int frees(int n) {
        int no = ahead(n, 0, 60);
        return no != 0 ? no : now.after(n).frees;
    }

    int never(int n) {
        int no = ahead(n, 0, 60);
        return no != 0 ? no : IntStream.rangeClosed(Math.min(1, n), n).map(s -> now.after(s).bits())
            .reduce(255, (a, b) -> a & b);
    }

    int mayFree(int child) {
        if (no(child)) {
            return refuse(-1);
        }
        Kid k = now.kids.get(child);
        int whom = k.stands ? -1 : now.least(k.cell, j -> now.kids.get(j).stands && k.may(j));
        return whom < 0 ? -9 : whom;
    }

    private static int sum(World start, int n, int butFor) {
        World w = start.copy();
        w.aside = start.aside;
        int sum = 0;
        for (int s = 1; s <= n; s++) {
            w.step();
            sum += Integer.bitCount(butFor < 0 ? w.bits() : w.bits() & ~(1 << butFor));
        }
        return sum;
    }

    int worth(int child) {
        if (no(child)) {
            return 1000000000 - refuse(-1);
        }
        if (now.kids.get(child).catches()) {
            return 1000000000 - refuse(-3);
        }
        World w = now.copy();
        w.aside = child;
        return sum(w, 20, child) - sum(now, 20, child);
    }

    int hunt(int child, int n, int what) {
        int no = no(child) ? refuse(-1) : !now.kids.get(child).catches() ? refuse(-3) : ahead(n, 1, 60);
        no = no == 0 && (what < 0 || what > 1) ? refuse(-2) : no;
        if (no != 0) {
            return no;
        }
        int[] sums = new int[4];
        int best = 0;
        for (int i = 0; i < 4; i++) {
            World w = now.copy();
            w.kids.get(child).kind = "cgwb".charAt(i);
            sums[i] = sum(w, n, -1);
            best = sums[i] > sums[best] ? i : best;
        }
        return what == 0 ? best : sums[best];
    }

    int enough() {
        if (now.players() == 0) {
            return refuse(-3);
        }
        World w = now.copy();
        for (int more = 0; more <= 3 && w.kids.size() <= 8; more++) {
            if (w.over() != -9) {
                return more;
            }
            Kid k = new Kid();
            k.kind = 'c';
            w.kids.add(k);
        }
        return -9;
    }

    int change(int catcher, int child, int what) {
        if (no(catcher) || no(child)) {
            return refuse(-1);
        }
        if (!now.kids.get(catcher).catches() || now.kids.get(child).catches()) {
            return refuse(-3);
        }
        if (what < 0 || what > 1) {
            return refuse(-2);
        }
        int best = -1;
        int most = -1;
        for (int s = 0; s <= 20; s++) {
            World w = now.after(s);
            char kind = w.kids.get(catcher).kind;
            w.kids.get(catcher).kind = w.kids.get(child).kind;
            w.kids.get(child).kind = kind;
            w.kids.get(child).stands = false;
            int stand = w.after(30 - s).standing();
            if (stand > most) {
                most = stand;
                best = s;
            }
        }
        return what == 0 ? best : most;
    }

    int longest() {
        if (now.players() == 0) {
            return refuse(-3);
        }
        int best = 0;
        int latest = -1;
        for (int law = 0; law < 4; law++) {
            World w = now.copy();
            w.law = law;
            int over = w.over() == -9 ? 999 : w.over();
            if (over > latest) {
                latest = over;
                best = law;
            }
        }
        return best;
    }

    int owes(int child, int other) {
        return no(child) || no(other) ? refuse(-1) : now.freed[other][child];
    }

    int debt(int child) {
        if (no(child)) {
            return 1000000000 - refuse(-1);
        }
        return IntStream.range(0, 8).map(i -> now.freed[child][i] - now.freed[i][child]).sum();
    }

    int why(int child, int n) {
        if (no(child)) {
            return refuse(-1);
        }
        if (!now.kids.get(child).stands) {
            return refuse(-3);
        }
        int no = ahead(n, 1, 60);
        if (no != 0) {
            return no;
        }
        if (IntStream.rangeClosed(1, n).anyMatch(s -> !now.after(s).kids.get(child).stands)) {
            return 0;
        }
        if (IntStream.range(0, now.kids.size()).noneMatch(i -> i != child && now.kids.get(i).may(child))) {
            return 1;
        }
        // Freed, gone and touched again within a second, he may stand elsewhere than now.
        return IntStream.rangeClosed(1, n).mapToObj(now::after)
            .allMatch(w -> w.catcherFar(w.kids.get(child).cell) <= 1) ? 2 : 3;
    }

    int row(int v) {
        if (v < 0) {
            return refuse(-4);
        }
        if (v > 8 || row.size() == 20) {
            return refuse(-6);
        }
        row.add(v);
        return row.size();
    }

    private int firstUntrue(World w) {
        for (int i = 0; i < row.size(); i++) {
            if (w.after(i + 1).standing() != row.get(i)) {
                return i;
            }
        }
        return -9;
    }

    int fits(int child) {
        if (no(child)) {
            return refuse(-1);
        }
        int bits = 0;
        for (int cell = 0; cell < 24; cell++) {
            World w = now.copy();
            w.kids.get(child).cell = cell;
            bits += firstUntrue(w) == -9 ? 1 << cell : 0;
        }
        return bits;
    }

    int judge() {
        int first = firstUntrue(now);
        row.clear();
        return first;
    }

    int lots(int n, int z) {
        int no = ahead(n, 1, 20);
        if (no != 0) {
            return no;
        }
        int sum = 0;
        for (int i = 0; i < n; i++) {
            World w = now.copy();
            for (Kid k : w.kids) {
                z = (int) (z * 1664525L + 1013904223L);
                k.cell = ((z << 1) >>> 1) / 256 % 24;
                k.stands = false;
                k.tired = 0;
            }
            sum += w.after(30).standing();
        }
        return sum;
    }

    int image() {
        image = now.copy();
        return now.second;
    }

    int on() {
        if (image == null) {
            return refuse(-3);
        }
        now = image.copy();
        return now.second;
    }

    int count(int what) {
        if (what >= 11 && what <= 16) {
            return refusals[what - 10];
        }
        int freed = 0;
        for (int[] by : now.freed) {
            freed += IntStream.of(by).sum();
        }
        int[] all = {now.kids.size(), (int) (now.kids.size() - now.players()), now.standing(), now.second, now.law,
            now.kids.stream().mapToInt(k -> k.tired).sum(), freed, row.size(), letters.length()};
        return what < 0 || what > 8 ? -9 : all[what];
    }
}
