import java.math.BigInteger;
import java.util.ArrayList;
import java.util.List;
import java.util.regex.Matcher;
import java.util.regex.Pattern;

/**
 * The document once more, in the most literal way: all rows, all orders and all ways are gone through one by one.
 * LoveGlass answers by other means, so that a slip in one of the two shows.
 */
final class Model {
    static final int UNKNOWN = -1, BAD = -2, LATE = -3, FULL = -4, NONE = -9;
    private static final Pattern PORT = Pattern.compile("E(G[1-9][0-3]|S[1-4][0-3]|Y[1-9][0-9][0-3])*");
    private static final BigInteger TWO_64 = BigInteger.ONE.shiftLeft(64);

    /** A glass that runs, with what is said in it. */
    private static final class Run {
        final int glass;
        final int suitor;
        final int left;
        final List<Integer> said;

        Run(int glass, int suitor, int left, List<Integer> said) {
            this.glass = glass;
            this.suitor = suitor;
            this.left = left;
            this.said = said;
        }
    }

    private static final Run NOTHING = new Run(NONE, NONE, 0, List.of());

    private final StringBuilder text = new StringBuilder();
    private List<int[]> glasses = new ArrayList<>();
    private List<int[]> suitors = new ArrayList<>();
    private List<int[]> sayings = new ArrayList<>();
    private Run run = NOTHING;
    private final List<Run> acts = new ArrayList<>();
    private final List<int[]> timed = new ArrayList<>();
    private final Run[] slots = new Run[2];
    private long seed;

    int write(int letter) {
        if (letter < 0 || letter > 255) {
            return BAD;
        }
        if (text.length() == 56) {
            return FULL;
        }
        text.append((char) letter);
        return text.length();
    }

    int wipe() {
        int length = text.length();
        text.setLength(0);
        return length;
    }

    int fault() {
        for (int end = 1; end <= text.length(); end++) {
            if (!canBegin(text.substring(0, end))) {
                return end - 1;
            }
        }
        return PORT.matcher(text).matches() ? NONE : text.length();
    }

    private static boolean canBegin(String start) {
        Matcher matcher = PORT.matcher(start);
        boolean could = matcher.matches() || matcher.hitEnd();
        return could && count(start, 'G') <= 4 && count(start, 'S') <= 4 && count(start, 'Y') <= 6;
    }

    private static long count(String start, char letter) {
        return start.chars().filter(c -> c == letter).count();
    }

    int port() {
        if (fault() != NONE) {
            return LATE;
        }
        glasses = parts("G(.)(.)", 2);
        suitors = parts("S(.)(.)", 2);
        sayings = parts("Y(.)(.)(.)", 3);
        run = NOTHING;
        acts.clear();
        slots[0] = null;
        slots[1] = null;
        return 100 * glasses.size() + 10 * suitors.size() + sayings.size();
    }

    private List<int[]> parts(String form, int figures) {
        List<int[]> all = new ArrayList<>();
        Matcher matcher = Pattern.compile(form).matcher(text);
        while (matcher.find()) {
            int[] part = new int[figures];
            for (int i = 0; i < figures; i++) {
                part[i] = Integer.parseInt(matcher.group(i + 1));
            }
            all.add(part);
        }
        return all;
    }

    private static boolean has(List<?> list, int one) {
        return one >= 0 && one < list.size();
    }

    int about(int what) {
        int bits = 0;
        for (int y : run.said) {
            bits |= 1 << y;
        }
        int[] all = {glasses.size(), suitors.size(), sayings.size(), run.glass, run.suitor, run.left, run.said.size(),
            bits, warmth(run.said), isDeclaration(run.said) ? 1 : 0, acts.size(), timed.size(), text.length()};
        return what < 0 || what > 12 ? BAD : all[what];
    }

    private int warmth(List<Integer> row) {
        return row.stream().mapToInt(y -> sayings.get(y)[1]).sum();
    }

    private boolean isDeclaration(List<Integer> row) {
        StringBuilder sorts = new StringBuilder();
        for (int y : row) {
            sorts.append(sayings.get(y)[2]);
        }
        return sorts.toString().matches(".*1.*2.*3.*");
    }

    private int grains(int glass) {
        int sand = glasses.get(glass)[0];
        return glasses.get(glass)[1] == 2 ? 15 * sand : 10 * sand;
    }

    int glass(int glass, int what) {
        if (!has(glasses, glass)) {
            return UNKNOWN;
        }
        return what == 0 || what == 1 ? glasses.get(glass)[what] : what == 2 ? grains(glass) : BAD;
    }

    int suitor(int suitor, int what) {
        if (!has(suitors, suitor)) {
            return UNKNOWN;
        }
        return what == 0 || what == 1 ? suitors.get(suitor)[what] : BAD;
    }

    int saying(int saying, int what) {
        if (!has(sayings, saying)) {
            return UNKNOWN;
        }
        if (what == 3) {
            return run.glass == NONE || run.said.contains(saying) ? NONE
                : takes(saying, run.suitor, run.glass, run.said.size());
        }
        return what >= 0 && what <= 2 ? sayings.get(saying)[what] : BAD;
    }

    int said(int place) {
        return has(run.said, place) ? run.said.get(place) : UNKNOWN;
    }

    int takes(int saying, int suitor, int glass, int place) {
        if (!has(sayings, saying) || !has(suitors, suitor) || !has(glasses, glass)) {
            return UNKNOWN;
        }
        if (place < 0 || place > 5) {
            return BAD;
        }
        int[] s = suitors.get(suitor);
        return takesBy(s[1], s[0], saying, place) + (glasses.get(glass)[1] == 1 ? 2 : 0);
    }

    private int takesBy(int kind, int pace, int saying, int place) {
        int plain = sayings.get(saying)[0] * pace;
        switch (kind) {
            case 1:
                return sayings.get(saying)[2] == 0 ? plain / 2 : plain;
            case 2:
                return place == 0 ? 2 * plain : plain;
            case 3:
                return plain + place;
            default:
                return plain;
        }
    }

    private static Run afresh(int glass, int suitor, int left) {
        return new Run(glass, suitor, left, List.of());
    }

    /** A run behind a doing; null: it can not be done. */
    private Run spoken(Run r, int saying) {
        if (r.glass == NONE || !has(sayings, saying) || r.said.contains(saying)) {
            return null;
        }
        int left = r.left - takes(saying, r.suitor, r.glass, r.said.size());
        List<Integer> said = new ArrayList<>(r.said);
        said.add(saying);
        return left < 0 ? null : new Run(r.glass, r.suitor, left, said);
    }

    private Run paused(Run r) {
        if (r.glass == NONE) {
            return null;
        }
        if (glasses.get(r.glass)[1] == 3) {
            return r;
        }
        return r.left == 0 ? null : new Run(r.glass, r.suitor, r.left - 1, r.said);
    }

    private Run drawn(Run r, int n) {
        return r.glass == NONE || r.left == 0 ? null : new Run(r.glass, r.suitor, Math.max(r.left - n, 0), r.said);
    }

    private int act(Run then) {
        if (then == null) {
            return LATE;
        }
        acts.add(run);
        if (acts.size() > 14) {
            acts.remove(0);
        }
        run = then;
        return run.left;
    }

    int turn(int glass, int suitor) {
        if (!has(glasses, glass) || !has(suitors, suitor)) {
            return UNKNOWN;
        }
        return act(afresh(glass, suitor, grains(glass)));
    }

    int say(int saying) {
        return has(sayings, saying) ? act(spoken(run, saying)) : UNKNOWN;
    }

    int pause() {
        return act(paused(run));
    }

    int draw(int n) {
        return n < 1 || n > 9 ? BAD : act(drawn(run, n));
    }

    int undo() {
        if (acts.isEmpty()) {
            return LATE;
        }
        run = acts.remove(acts.size() - 1);
        return acts.size();
    }

    /** All runs that a run can become by sayings of a set, said one behind the other. */
    private void behind(Run r, int set, List<Run> all) {
        all.add(r);
        for (int y = 0; y < sayings.size(); y++) {
            Run then = (set >> y & 1) == 1 ? spoken(r, y) : null;
            if (then != null) {
                behind(then, set, all);
            }
        }
    }

    private static int figures(Run from, Run to) {
        int number = 0;
        for (int y : to.said.subList(from.said.size(), to.said.size())) {
            number = number * 10 + y + 1;
        }
        return number;
    }

    /** The best declaration behind a run; null: there is none. */
    private Run best(Run from, int set, boolean byWarmth) {
        if (from.glass == NONE) {
            return null;
        }
        List<Run> all = new ArrayList<>();
        behind(from, set, all);
        Run best = null;
        for (Run r : all) {
            if (isDeclaration(r.said) && (best == null || order(from, r, best, byWarmth) < 0)) {
                best = r;
            }
        }
        return best;
    }

    private int order(Run from, Run a, Run b, boolean byWarmth) {
        if (byWarmth && warmth(a.said) != warmth(b.said)) {
            return warmth(b.said) - warmth(a.said);
        }
        return a.left != b.left ? b.left - a.left : figures(from, a) - figures(from, b);
    }

    int warmest(boolean row) {
        Run best = best(run, 63, true);
        return best == null ? NONE : row ? figures(run, best) : warmth(best.said);
    }

    int shortest(boolean row) {
        Run best = best(run, 63, false);
        return best == null ? NONE : row ? figures(run, best) : run.left - best.left;
    }

    private boolean canIn(int suitor, int glass) {
        return best(afresh(glass, suitor, grains(glass)), 63, false) != null;
    }

    int can(int glass) {
        if (!has(glasses, glass)) {
            return UNKNOWN;
        }
        int bits = 0;
        for (int s = 0; s < suitors.size(); s++) {
            bits |= canIn(s, glass) ? 1 << s : 0;
        }
        return bits;
    }

    int does(int suitor) {
        if (!has(suitors, suitor)) {
            return UNKNOWN;
        }
        int best = NONE;
        for (int g = glasses.size() - 1; g >= 0; g--) {
            if (canIn(suitor, g) && (best == NONE || grains(g) <= grains(best))) {
                best = g;
            }
        }
        return best;
    }

    int matched(boolean way) {
        int[] best = {-1, 0};
        boolean[][] pairs = new boolean[suitors.size()][glasses.size()];
        for (int s = 0; s < suitors.size(); s++) {
            for (int g = 0; g < glasses.size(); g++) {
                pairs[s][g] = canIn(s, g);
            }
        }
        match(pairs, 0, new ArrayList<>(), 0, "1", best);
        return way ? best[1] : best[0];
    }

    private void match(boolean[][] pairs, int suitor, List<Integer> turned, int many, String way, int[] best) {
        if (suitor == pairs.length) {
            int number = Integer.parseInt(way);
            if (many > best[0] || many == best[0] && number < best[1]) {
                best[0] = many;
                best[1] = number;
            }
            return;
        }
        match(pairs, suitor + 1, turned, many, way + "0", best);
        for (int g = 0; g < glasses.size(); g++) {
            if (!turned.contains(g)) {
                List<Integer> more = new ArrayList<>(turned);
                more.add(g);
                match(pairs, suitor + 1, more, many + (pairs[suitor][g] ? 1 : 0), way + (g + 1), best);
            }
        }
    }

    int judge(int n, int row) {
        if (n < 1 || n > 4 || row < 0 || String.valueOf(row).length() > 2 * n) {
            return BAD;
        }
        String figures = "00000000" + row;
        figures = figures.substring(figures.length() - 2 * n);
        Run r = run;
        for (int place = 0; place < n; place++) {
            r = judged(r, figures.charAt(2 * place) - '0', figures.charAt(2 * place + 1) - '0');
            if (r == null) {
                return place;
            }
        }
        return NONE;
    }

    private Run judged(Run r, int doing, int figure) {
        if (doing == 0) {
            return spoken(r, figure);
        }
        if (doing == 1 && figure == 0) {
            return paused(r);
        }
        if (doing == 2 && figure >= 1) {
            return drawn(r, figure);
        }
        boolean so = doing == 3 && figure == 0 && isDeclaration(r.said) || doing == 4 && warmth(r.said) >= figure;
        return so ? r : null;
    }

    private int worth(Run from, int set) {
        Run best = best(from, set, true);
        return best == null ? 0 : warmth(best.said);
    }

    int share(int saying, boolean upper) {
        if (!has(sayings, saying)) {
            return UNKNOWN;
        }
        if (run.glass == NONE) {
            return LATE;
        }
        Run from = afresh(run.glass, run.suitor, grains(run.glass));
        int[] worths = new int[1 << sayings.size()];
        for (int set = 0; set < worths.length; set++) {
            worths[set] = worth(from, set);
        }
        long[] sum = new long[2];
        allOrders(0, saying, worths, sum);
        return fraction(sum[0], sum[1], upper);
    }

    /** Goes through all orders in which the sayings behind those of a set come. */
    private void allOrders(int set, int saying, int[] worths, long[] sum) {
        if ((set >> saying & 1) == 1) {
            return;
        }
        long rest = 1;
        for (int i = 2; i < sayings.size() - Integer.bitCount(set); i++) {
            rest *= i;
        }
        sum[0] += rest * (worths[set | 1 << saying] - worths[set]);
        sum[1] += rest;
        for (int y = 0; y < sayings.size(); y++) {
            if (y != saying && (set >> y & 1) == 0) {
                allOrders(set | 1 << y, saying, worths, sum);
            }
        }
    }

    private static int fraction(long above, long below, boolean upper) {
        BigInteger common = BigInteger.valueOf(above).gcd(BigInteger.valueOf(below));
        return BigInteger.valueOf(upper ? above : below).divide(common).intValueExact();
    }

    int time(int saying, int place, int pace, int g) {
        if (!has(sayings, saying)) {
            return UNKNOWN;
        }
        if (place < 0 || place > 5 || pace < 1 || pace > 4 || g < 0 || g > 99) {
            return BAD;
        }
        if (timed.size() == 6) {
            return FULL;
        }
        timed.add(new int[] {saying, place, pace, g});
        return timed.size();
    }

    int untime() {
        int many = timed.size();
        timed.clear();
        return many;
    }

    int kinds() {
        int bits = 15;
        for (int[] t : timed) {
            for (int kind = 0; kind < 4; kind++) {
                if (has(sayings, t[0]) && takesBy(kind, t[2], t[0], t[1]) != t[3]) {
                    bits &= ~(1 << kind);
                }
            }
        }
        return bits;
    }

    int rests(int suitor, int other, int what) {
        if (!has(suitors, suitor) || !has(suitors, other)) {
            return UNKNOWN;
        }
        if (suitor == other || what < 0 || what > 1) {
            return BAD;
        }
        if (run.glass == NONE) {
            return LATE;
        }
        int[][] gains = {gains(suitor), gains(other)};
        List<Integer> rests = new ArrayList<>();
        for (int pair : new int[] {0, 1, 10, 11}) {
            int one = pair / 10;
            int two = pair % 10;
            // gains: [own choice * 2 + the other's]
            boolean oneStays = gains[0][one * 2 + two] >= gains[0][(1 - one) * 2 + two];
            boolean twoStays = gains[1][two * 2 + one] >= gains[1][(1 - two) * 2 + one];
            if (oneStays && twoStays) {
                rests.add(pair);
            }
        }
        return what == 0 ? rests.size() : rests.isEmpty() ? NONE : rests.get(0);
    }

    private int[] gains(int suitor) {
        return new int[] {2, 2, worth(afresh(run.glass, suitor, run.left), 63),
            worth(afresh(run.glass, suitor, run.left / 2), 63)};
    }

    int misheard(int x, boolean upper) {
        if (x < 0 || x > 10) {
            return BAD;
        }
        int many = run.said.size();
        long above = 0;
        long below = 1;
        for (int i = 0; i < many; i++) {
            below *= 10;
        }
        for (int set = 0; set < 1 << many; set++) {
            List<Integer> heard = new ArrayList<>();
            long chance = 1;
            for (int i = 0; i < many; i++) {
                boolean hears = (set >> i & 1) == 1;
                chance *= hears ? 10 - x : x;
                if (hears) {
                    heard.add(run.said.get(i));
                }
            }
            above += isDeclaration(heard) ? chance : 0;
        }
        return fraction(above, below, upper);
    }

    long seed(long v) {
        long was = seed;
        seed = v;
        return was;
    }

    int weeks(int m) {
        if (m < 1 || m > 30) {
            return BAD;
        }
        Run r = run;
        int often = 0;
        for (int week = 0; week < m; week++) {
            BigInteger x = BigInteger.valueOf(seed).multiply(new BigInteger("6364136223846793005"))
                .add(new BigInteger("1442695040888963407")).mod(TWO_64);
            seed = x.longValue();
            int doing = x.shiftRight(33).mod(BigInteger.valueOf(28)).intValueExact();
            Run then;
            if (doing < 16) {
                boolean are = has(glasses, doing / 4) && has(suitors, doing % 4);
                then = are ? afresh(doing / 4, doing % 4, grains(doing / 4)) : null;
            } else {
                then = doing < 22 ? spoken(r, doing - 16) : drawn(r, doing - 21);
            }
            r = then == null ? r : then;
            often += then != null && doing >= 16 && doing < 22 && isDeclaration(r.said) ? 1 : 0;
        }
        return often;
    }

    int keep(int slot) {
        if (slot < 0 || slot > 1) {
            return UNKNOWN;
        }
        slots[slot] = run;
        return run.left;
    }

    int again(int slot) {
        if (slot < 0 || slot > 1) {
            return UNKNOWN;
        }
        if (slots[slot] == null) {
            return LATE;
        }
        run = slots[slot];
        acts.clear();
        return run.left;
    }
}
