import java.util.Arrays;

/**
 * A port in which a declaration of love has as long as the glass runs: it must name, and vow, and ask, in that order.
 *
 * <p>Whatever a call needs stands ready since the constructor: no call makes an object.
 */
public final class LoveGlass {
    public static final int UNKNOWN = -1, BAD = -2, LATE = -3, FULL = -4, NONE = -9;

    private static final int MOST_BYTES = 56, MOST_GLASSES = 4, MOST_SUITORS = 4, MOST_SAYINGS = 6;
    private static final int MOST_ACTS = 14, MOST_TIMED = 6, SLOTS = 2, MOST_DRAWN = 9, MOST_WEEKS = 30;
    private static final int PLAIN = 0, CRACKED = 1, RED = 2, HERS = 3, GLASS_KINDS = 4;
    private static final int POET = 1, STAMMERER = 2, FISHERMAN = 3, SUITOR_KINDS = 4;
    private static final int FILLER = 0, SORTS = 4;
    /** A row is at the stage of the last sort that it has reached in order: 0, NAME 1, VOW 2, ASK 3. */
    private static final int STAGES = 4, DECLARED = 3;
    private static final int SETS = 1 << MOST_SAYINGS;
    /** Of a way to match, each SUITOR's figure: 0 none, else the GLASS and 1. */
    private static final int WAY_BASE = MOST_GLASSES + 1;
    private static final int SPEAKS = 0, PAUSES = 1, DRAWS = 2, DECLARES = 3, WARMS = 4, MOST_DOINGS = 4;
    private static final int WAITS = 0, TALKS = 1, GAIN_OF_WAITING = 2;
    private static final int TENTHS = 10;
    private static final int WEEK_DOINGS = 28, WEEK_SAYINGS = 16, WEEK_DRAWS = 22;
    private static final long SEED_FACTOR = 6364136223846793005L, SEED_MORE = 1442695040888963407L;

    private final Row text = new Row(MOST_BYTES, 0, 255);
    private Port port = new Port();
    /** What THE TEXT is read into, so that THE PORT stays as it is when there is a FAULT. */
    private Port draft = new Port();
    private final Run now = new Run();
    /** What is tried, so that what is refused, or only asked, changes nothing. */
    private final Run trial = new Run();
    private final Acts acts = new Acts();
    private final Timings timings = new Timings();
    private final Plans plans = new Plans();
    private final Shelf kept = new Shelf(SLOTS);
    private int keptSlots;
    private long theSeed;
    private final int[] chances = new int[STAGES];

    public LoveGlass() {
    }

    // ---- the port

    public int write(int letter) {
        if (!text.fits(letter)) {
            return BAD;
        }
        if (text.isFull()) {
            return FULL;
        }
        text.put(letter);
        return text.size();
    }

    public int wipe() {
        int length = text.size();
        text.clear();
        return length;
    }

    public int fault() {
        return draft.readFrom(text);
    }

    public int port() {
        if (draft.readFrom(text) != NONE) {
            return LATE;
        }
        Port read = draft;
        draft = port;
        port = read;
        now.stop();
        acts.clear();
        keptSlots = 0;
        return 100 * port.glasses() + 10 * port.suitors() + port.sayings();
    }

    public int about(int what) {
        switch (what) {
            case 0:
                return port.glasses();
            case 1:
                return port.suitors();
            case 2:
                return port.sayings();
            case 10:
                return acts.size();
            case 11:
                return timings.size();
            case 12:
                return text.size();
            default:
                return aboutRun(what);
        }
    }

    private int aboutRun(int what) {
        switch (what) {
            case 3:
                return now.glass;
            case 4:
                return now.suitor;
            case 5:
                return now.left;
            case 6:
                return now.size();
            case 7:
                return now.spoken();
            case 8:
                return port.warmthOf(now.spoken());
            case 9:
                return now.declares(port) ? 1 : 0;
            default:
                return BAD;
        }
    }

    public int glass(int glass, int what) {
        if (!port.hasGlass(glass)) {
            return UNKNOWN;
        }
        switch (what) {
            case 0:
                return port.sand.at(glass);
            case 1:
                return port.glassKind.at(glass);
            case 2:
                return port.grains(glass);
            default:
                return BAD;
        }
    }

    public int suitor(int suitor, int what) {
        if (!port.hasSuitor(suitor)) {
            return UNKNOWN;
        }
        switch (what) {
            case 0:
                return port.pace.at(suitor);
            case 1:
                return port.suitorKind.at(suitor);
            default:
                return BAD;
        }
    }

    public int saying(int saying, int what) {
        if (!port.hasSaying(saying)) {
            return UNKNOWN;
        }
        switch (what) {
            case 0:
                return port.letters.at(saying);
            case 1:
                return port.warmth.at(saying);
            case 2:
                return port.sort.at(saying);
            case 3:
                return now.runs() && !now.hasSpoken(saying) ? now.cost(port, saying) : NONE;
            default:
                return BAD;
        }
    }

    public int said(int place) {
        return now.row.has(place) ? now.row.at(place) : UNKNOWN;
    }

    public int takes(int saying, int suitor, int glass, int place) {
        if (!port.hasSaying(saying) || !port.hasSuitor(suitor) || !port.hasGlass(glass)) {
            return UNKNOWN;
        }
        if (place < 0 || place >= MOST_SAYINGS) {
            return BAD;
        }
        return port.cost(saying, suitor, glass, place);
    }

    // ---- acts

    public int turn(int glass, int suitor) {
        if (!port.hasGlass(glass) || !port.hasSuitor(suitor)) {
            return UNKNOWN;
        }
        acts.remember(now);
        now.start(port, glass, suitor);
        return now.left;
    }

    public int say(int saying) {
        if (!port.hasSaying(saying)) {
            return UNKNOWN;
        }
        trial.copyFrom(now);
        return actTried(trial.speak(port, saying));
    }

    public int pause() {
        trial.copyFrom(now);
        return actTried(trial.rest(port));
    }

    public int draw(int n) {
        if (n < 1 || n > MOST_DRAWN) {
            return BAD;
        }
        trial.copyFrom(now);
        return actTried(trial.lose(n));
    }

    /** What was tried becomes what is, as an ACT that can be undone, if it could be. */
    private int actTried(boolean could) {
        if (!could) {
            return LATE;
        }
        acts.remember(now);
        now.copyFrom(trial);
        return now.left;
    }

    public int undo() {
        return acts.takeBack(now) ? acts.size() : LATE;
    }

    // ---- declarations

    public int warmest(boolean row) {
        plans.layBehind(port, now);
        if (!plans.seekWarmest(port)) {
            return NONE;
        }
        return row ? plans.row : plans.warmth + port.warmthOf(now.spoken());
    }

    public int shortest(boolean row) {
        plans.layBehind(port, now);
        if (!plans.seekShortest()) {
            return NONE;
        }
        return row ? plans.row : plans.grains;
    }

    public int can(int glass) {
        if (!port.hasGlass(glass)) {
            return UNKNOWN;
        }
        int suitors = 0;
        for (int suitor = 0; suitor < port.suitors(); suitor++) {
            if (canDeclare(suitor, glass)) {
                suitors |= 1 << suitor;
            }
        }
        return suitors;
    }

    private boolean canDeclare(int suitor, int glass) {
        trial.start(port, glass, suitor);
        plans.layBehind(port, trial);
        return plans.seekShortest();
    }

    public int does(int suitor) {
        if (!port.hasSuitor(suitor)) {
            return UNKNOWN;
        }
        int best = NONE;
        for (int glass = 0; glass < port.glasses(); glass++) {
            boolean fewer = best == NONE || port.grains(glass) < port.grains(best);
            if (fewer && canDeclare(suitor, glass)) {
                best = glass;
            }
        }
        return best;
    }

    public int matched(boolean way) {
        int pairs = 0;
        int ways = 1;
        for (int suitor = 0; suitor < port.suitors(); suitor++) {
            ways *= WAY_BASE;
            for (int glass = 0; glass < port.glasses(); glass++) {
                if (canDeclare(suitor, glass)) {
                    pairs |= 1 << pairBit(suitor, glass);
                }
            }
        }
        int most = 0;
        int best = 0;
        for (int one = 0; one < ways; one++) {
            int many = matchesIn(one, ways, pairs);
            if (many > most) {
                most = many;
                best = one;
            }
        }
        return way ? figuresOf(best, ways) : most;
    }

    private static int pairBit(int suitor, int glass) {
        return suitor * MOST_GLASSES + glass;
    }

    /**
     * How many can in a way (figures to WAY_BASE, the first SUITOR's the highest); NONE: it is no way.
     * A way with a pair that can not is passed over: the same way without that pair has as many, and is less.
     */
    private int matchesIn(int way, int ways, int pairs) {
        int weight = ways;
        int turned = 0;
        int many = 0;
        for (int suitor = 0; suitor < port.suitors(); suitor++) {
            weight /= WAY_BASE;
            int glass = figureAt(way, weight, WAY_BASE) - 1;
            if (glass < 0) {
                continue;
            }
            if (isIn(turned, glass) || !isIn(pairs, pairBit(suitor, glass))) {
                return NONE;
            }
            turned |= 1 << glass;
            many++;
        }
        return many;
    }

    /** A way in figures to the base of ten, behind a 1. */
    private int figuresOf(int way, int ways) {
        int weight = ways;
        int figures = 1;
        for (int suitor = 0; suitor < port.suitors(); suitor++) {
            weight /= WAY_BASE;
            figures = 10 * figures + figureAt(way, weight, WAY_BASE);
        }
        return figures;
    }

    private static int figureAt(int number, int weight, int base) {
        return weight < 1 || base < 1 ? 0 : number / weight % base;
    }

    public int judge(int n, int row) {
        if (n < 1 || n > MOST_DOINGS || row < 0 || row >= hundreds(n)) {
            return BAD;
        }
        trial.copyFrom(now);
        for (int place = 0; place < n; place++) {
            int doing = figureAt(row, hundreds(n - 1 - place), 100);
            if (!canDo(doing / 10, doing % 10)) {
                return place;
            }
        }
        return NONE;
    }

    private static int hundreds(int n) {
        int number = 1;
        for (int i = 0; i < n; i++) {
            number *= 100;
        }
        return number;
    }

    /** Does a doing that is told in what is tried, or looks whether it is so there. */
    private boolean canDo(int doing, int figure) {
        switch (doing) {
            case SPEAKS:
                return trial.speak(port, figure);
            case PAUSES:
                return figure == 0 && trial.rest(port);
            case DRAWS:
                return figure > 0 && trial.lose(figure);
            case DECLARES:
                return figure == 0 && trial.declares(port);
            case WARMS:
                return port.warmthOf(trial.spoken()) >= figure;
            default:
                return false;
        }
    }

    public int share(int saying, boolean upper) {
        if (!port.hasSaying(saying)) {
            return UNKNOWN;
        }
        if (!now.runs()) {
            return LATE;
        }
        trial.start(port, now.glass, now.suitor);
        plans.layBehind(port, trial);
        plans.weighSets(port);
        int many = port.sayings();
        int sum = 0;
        for (int set = 0; set < 1 << many; set++) {
            if (!isIn(set, saying)) {
                int ahead = Integer.bitCount(set);
                sum += orders(ahead) * orders(many - 1 - ahead) * plans.gainOf(set, saying);
            }
        }
        return fraction(sum, orders(many), upper);
    }

    /** In how many orders n things can come. */
    private static int orders(int n) {
        int number = 1;
        for (int i = 2; i <= n; i++) {
            number *= i;
        }
        return number;
    }

    private static int fraction(int above, int below, boolean upper) {
        int common = commonDivisor(above, below);
        if (common < 1) {
            return 0;
        }
        return upper ? above / common : below / common;
    }

    private static int commonDivisor(int one, int other) {
        int a = one;
        int b = other;
        // Two numbers of an int's size are through long before so many steps.
        for (int step = 0; step < 100 && b > 0; step++) {
            int rest = a % b;
            a = b;
            b = rest;
        }
        return a;
    }

    // ---- timed

    public int time(int saying, int place, int pace, int g) {
        if (!port.hasSaying(saying)) {
            return UNKNOWN;
        }
        if (!timings.fits(place, pace, g)) {
            return BAD;
        }
        if (timings.isFull()) {
            return FULL;
        }
        timings.put(saying, place, pace, g);
        return timings.size();
    }

    public int untime() {
        int many = timings.size();
        timings.clear();
        return many;
    }

    public int kinds() {
        int could = 0;
        for (int kind = 0; kind < SUITOR_KINDS; kind++) {
            if (timings.areThoseOf(port, kind)) {
                could |= 1 << kind;
            }
        }
        return could;
    }

    // ---- rests, chances

    public int rests(int suitor, int other, int what) {
        if (!port.hasSuitor(suitor) || !port.hasSuitor(other)) {
            return UNKNOWN;
        }
        if (suitor == other || what < 0 || what > 1) {
            return BAD;
        }
        if (!now.runs()) {
            return LATE;
        }
        int oneAlone = warmestAfresh(suitor, now.left);
        int oneBoth = warmestAfresh(suitor, now.left / 2);
        int otherAlone = warmestAfresh(other, now.left);
        int otherBoth = warmestAfresh(other, now.left / 2);
        int many = 0;
        int first = NONE;
        for (int one = WAITS; one <= TALKS; one++) {
            for (int two = WAITS; two <= TALKS; two++) {
                if (isContent(one, two, oneAlone, oneBoth) && isContent(two, one, otherAlone, otherBoth)) {
                    many++;
                    first = first == NONE ? 10 * one + two : first;
                }
            }
        }
        return what == 0 ? many : first;
    }

    /** The WARMTH of the WARMEST by a SUITOR in the GLASS that runs, with so many GRAINS, nothing SAID; 0: none. */
    private int warmestAfresh(int suitor, int grains) {
        trial.start(port, now.glass, suitor);
        trial.left = grains;
        plans.layBehind(port, trial);
        return plans.seekWarmest(port) ? plans.warmth : 0;
    }

    private static boolean isContent(int own, int others, int alone, int both) {
        return gain(own, others, alone, both) >= gain(TALKS - own, others, alone, both);
    }

    private static int gain(int own, int others, int alone, int both) {
        if (own == WAITS) {
            return GAIN_OF_WAITING;
        }
        return others == WAITS ? alone : both;
    }

    public int misheard(int x, boolean upper) {
        if (x < 0 || x > TENTHS) {
            return BAD;
        }
        for (int stage = 0; stage < chances.length; stage++) {
            chances[stage] = stage == 0 ? 1 : 0;
        }
        int below = 1;
        for (int place = 0; place < now.size(); place++) {
            hear(port.sort.at(now.row.at(place)), x);
            below *= TENTHS;
        }
        return fraction(chanceOf(DECLARED), below, upper);
    }

    private int chanceOf(int stage) {
        return stage >= 0 && stage < chances.length ? chances[stage] : 0;
    }

    /** One SAYING more, misheard by x tenths: the chances of the stages, all of them ten times as many parts. */
    private void hear(int sort, int x) {
        for (int stage = chances.length - 1; stage >= 0; stage--) {
            int next = stageBehind(stage, sort);
            int heard = chances[stage] * (TENTHS - x);
            chances[stage] *= x;
            if (next >= 0 && next < chances.length) {
                chances[next] += heard;
            }
        }
    }

    public long seed(long v) {
        long was = theSeed;
        theSeed = v;
        return was;
    }

    public int weeks(int m) {
        if (m < 1 || m > MOST_WEEKS) {
            return BAD;
        }
        trial.copyFrom(now);
        int often = 0;
        for (int week = 0; week < m; week++) {
            theSeed = theSeed * SEED_FACTOR + SEED_MORE;
            if (speaksInWeek((int) ((theSeed >>> 33) % WEEK_DOINGS)) && trial.declares(port)) {
                often++;
            }
        }
        return often;
    }

    /** Does a week's doing in what is tried, if it can be; true: a SAYING was SAID. */
    private boolean speaksInWeek(int doing) {
        if (doing >= WEEK_DRAWS) {
            trial.lose(doing - WEEK_DRAWS + 1);
            return false;
        }
        if (doing >= WEEK_SAYINGS) {
            return trial.speak(port, doing - WEEK_SAYINGS);
        }
        int glass = doing / MOST_SUITORS;
        int suitor = doing % MOST_SUITORS;
        if (port.hasGlass(glass) && port.hasSuitor(suitor)) {
            trial.start(port, glass, suitor);
        }
        return false;
    }

    // ---- slots

    public int keep(int slot) {
        if (slot < 0 || slot >= SLOTS) {
            return UNKNOWN;
        }
        kept.layDown(slot, now);
        keptSlots |= 1 << slot;
        return now.left;
    }

    public int again(int slot) {
        if (slot < 0 || slot >= SLOTS) {
            return UNKNOWN;
        }
        if (!isIn(keptSlots, slot)) {
            return LATE;
        }
        kept.fetch(slot, now);
        acts.clear();
        return now.left;
    }

    private static boolean isIn(int set, int one) {
        return (set >> one & 1) == 1;
    }

    private static int stageBehind(int stage, int sort) {
        return stage < DECLARED && sort == stage + 1 ? stage + 1 : stage;
    }

    /** Numbers one behind the other, each from lowest to highest, so many at most. */
    private static final class Row {
        private final int[] numbers;
        private final int lowest;
        private final int highest;
        private int count;

        Row(int most, int lowest, int highest) {
            numbers = new int[Math.max(0, most)];
            this.lowest = lowest;
            this.highest = highest;
        }

        int size() {
            return count;
        }

        boolean isFull() {
            return count >= numbers.length;
        }

        boolean fits(int number) {
            return number >= lowest && number <= highest;
        }

        boolean has(int place) {
            return place >= 0 && place < count;
        }

        int at(int place) {
            return place >= 0 && place < count && place < numbers.length ? numbers[place] : NONE;
        }

        void put(int number) {
            if (count >= 0 && count < numbers.length) {
                numbers[count] = number;
                count++;
            }
        }

        void clear() {
            count = 0;
        }

        void copyFrom(Row other) {
            clear();
            for (int place = 0; place < other.count; place++) {
                put(other.at(place));
            }
        }
    }

    /** The GLASSES, SUITORS and SAYINGS that a TEXT tells. */
    private static final class Port {
        final Row sand = new Row(MOST_GLASSES, 1, 9);
        final Row glassKind = new Row(MOST_GLASSES, 0, GLASS_KINDS - 1);
        final Row pace = new Row(MOST_SUITORS, 1, 4);
        final Row suitorKind = new Row(MOST_SUITORS, 0, SUITOR_KINDS - 1);
        final Row letters = new Row(MOST_SAYINGS, 1, 9);
        final Row warmth = new Row(MOST_SAYINGS, 0, 9);
        final Row sort = new Row(MOST_SAYINGS, 0, SORTS - 1);

        /** Reads a text as far as it can be a port: the FAULT; NONE. */
        int readFrom(Row text) {
            clear();
            if (text.at(0) != 'E') {
                return 0;
            }
            int part = 0;
            int figures = 0;
            for (int place = 1; place < text.size(); place++) {
                int letter = text.at(place);
                if (part == 0) {
                    Row first = rowOf(letter, 0);
                    if (first == null || first.isFull()) {
                        return place;
                    }
                    part = letter;
                    figures = 0;
                } else {
                    Row row = rowOf(part, figures);
                    if (row == null || !row.fits(letter - '0')) {
                        return place;
                    }
                    row.put(letter - '0');
                    figures++;
                    part = rowOf(part, figures) == null ? 0 : part;
                }
            }
            return part == 0 ? NONE : text.size();
        }

        /** Where a figure of a part belongs; null: there is no such part, or no such figure of it. */
        private Row rowOf(int part, int figure) {
            switch (part) {
                case 'G':
                    return figure == 0 ? sand : figure == 1 ? glassKind : null;
                case 'S':
                    return figure == 0 ? pace : figure == 1 ? suitorKind : null;
                case 'Y':
                    return figure == 0 ? letters : figure == 1 ? warmth : figure == 2 ? sort : null;
                default:
                    return null;
            }
        }

        private void clear() {
            sand.clear();
            glassKind.clear();
            pace.clear();
            suitorKind.clear();
            letters.clear();
            warmth.clear();
            sort.clear();
        }

        int glasses() {
            return sand.size();
        }

        int suitors() {
            return pace.size();
        }

        int sayings() {
            return letters.size();
        }

        boolean hasGlass(int glass) {
            return sand.has(glass);
        }

        boolean hasSuitor(int suitor) {
            return pace.has(suitor);
        }

        boolean hasSaying(int saying) {
            return letters.has(saying);
        }

        int grains(int glass) {
            int grains = 10 * sand.at(glass);
            return glassKind.at(glass) == RED ? grains + grains / 2 : grains;
        }

        /** What a SAYING TAKES. */
        int cost(int saying, int suitor, int glass, int place) {
            return costBy(suitorKind.at(suitor), pace.at(suitor), glassKind.at(glass), saying, place);
        }

        int costBy(int kind, int pace, int glassKind, int saying, int place) {
            int cost = letters.at(saying) * pace;
            if (kind == POET && sort.at(saying) == FILLER) {
                cost /= 2;
            } else if (kind == STAMMERER && place == 0) {
                cost *= 2;
            } else if (kind == FISHERMAN) {
                cost += place;
            }
            return glassKind == CRACKED ? cost + 2 : cost;
        }

        /** The WARMTH of SAYINGS (bits). */
        int warmthOf(int set) {
            int sum = 0;
            for (int saying = 0; saying < sayings(); saying++) {
                if (isIn(set, saying)) {
                    sum += warmth.at(saying);
                }
            }
            return sum;
        }
    }

    /** Which GLASS runs for whom, what is left, what is SAID. */
    private static final class Run {
        int glass = NONE;
        int suitor = NONE;
        int left;
        final Row row = new Row(MOST_SAYINGS, 0, MOST_SAYINGS - 1);

        void stop() {
            glass = NONE;
            suitor = NONE;
            left = 0;
            row.clear();
        }

        void start(Port port, int glass, int suitor) {
            this.glass = glass;
            this.suitor = suitor;
            left = port.grains(glass);
            row.clear();
        }

        void copyFrom(Run other) {
            glass = other.glass;
            suitor = other.suitor;
            left = other.left;
            row.copyFrom(other.row);
        }

        boolean runs() {
            return glass != NONE;
        }

        int size() {
            return row.size();
        }

        /** The SAYINGS SAID, as bits. */
        int spoken() {
            int set = 0;
            for (int place = 0; place < row.size(); place++) {
                set |= 1 << row.at(place);
            }
            return set;
        }

        boolean hasSpoken(int saying) {
            return isIn(spoken(), saying);
        }

        int stage(Port port) {
            int stage = 0;
            for (int place = 0; place < row.size(); place++) {
                stage = stageBehind(stage, port.sort.at(row.at(place)));
            }
            return stage;
        }

        boolean declares(Port port) {
            return stage(port) == DECLARED;
        }

        /** What a SAYING TAKES as the next one. */
        int cost(Port port, int saying) {
            return port.cost(saying, suitor, glass, row.size());
        }

        /** A SAYING is SAID; false: it can not be. */
        boolean speak(Port port, int saying) {
            if (!runs() || !port.hasSaying(saying) || hasSpoken(saying) || cost(port, saying) > left) {
                return false;
            }
            left -= cost(port, saying);
            row.put(saying);
            return true;
        }

        /** A PAUSE; false: it can not be. */
        boolean rest(Port port) {
            int cost = port.glassKind.at(glass) == HERS ? 0 : 1;
            if (!runs() || cost > left) {
                return false;
            }
            left -= cost;
            return true;
        }

        /** GRAINS are DRAWN; false: there are none. */
        boolean lose(int n) {
            if (!runs() || left < 1) {
                return false;
            }
            left = Math.max(0, left - n);
            return true;
        }
    }

    /** Places at which runs are laid down as they are, to be fetched again. */
    private static final class Shelf {
        private final Run[] runs;

        Shelf(int places) {
            runs = new Run[Math.max(0, places)];
            for (int place = 0; place < runs.length; place++) {
                runs[place] = new Run();
            }
        }

        private Run at(int place) {
            return place >= 0 && place < runs.length ? runs[place] : null;
        }

        void layDown(int place, Run run) {
            Run held = at(place);
            if (held != null) {
                held.copyFrom(run);
            }
        }

        void fetch(int place, Run run) {
            Run held = at(place);
            if (held != null) {
                run.copyFrom(held);
            }
        }
    }

    /** What was ahead of each ACT, in a ring: when it is full, the next one takes the first one's place. */
    private static final class Acts {
        private final Shelf ring = new Shelf(MOST_ACTS);
        private int next;
        private int count;

        int size() {
            return count;
        }

        void clear() {
            count = 0;
        }

        void remember(Run run) {
            ring.layDown(next, run);
            next = (next + 1) % MOST_ACTS;
            count = Math.min(count + 1, MOST_ACTS);
        }

        /** A run becomes what it was ahead of the last ACT; false: there is none. */
        boolean takeBack(Run run) {
            if (count < 1) {
                return false;
            }
            next = (next + MOST_ACTS - 1) % MOST_ACTS;
            count--;
            ring.fetch(next, run);
            return true;
        }
    }

    /** What was TIMED. */
    private static final class Timings {
        private final Row saying = new Row(MOST_TIMED, 0, MOST_SAYINGS - 1);
        private final Row place = new Row(MOST_TIMED, 0, MOST_SAYINGS - 1);
        private final Row pace = new Row(MOST_TIMED, 1, 4);
        private final Row grains = new Row(MOST_TIMED, 0, 99);

        int size() {
            return saying.size();
        }

        boolean isFull() {
            return saying.isFull();
        }

        void clear() {
            saying.clear();
            place.clear();
            pace.clear();
            grains.clear();
        }

        boolean fits(int i, int p, int g) {
            return place.fits(i) && pace.fits(p) && grains.fits(g);
        }

        void put(int y, int i, int p, int g) {
            saying.put(y);
            place.put(i);
            pace.put(p);
            grains.put(g);
        }

        /** Whether all that is TIMED is so by SUITORS of a KIND; SAYINGS that THE PORT has not any more do not count. */
        boolean areThoseOf(Port port, int kind) {
            for (int i = 0; i < size(); i++) {
                int y = saying.at(i);
                if (port.hasSaying(y) && port.costBy(kind, pace.at(i), PLAIN, y, place.at(i)) != grains.at(i)) {
                    return false;
                }
            }
            return true;
        }
    }

    /**
     * The best rows that can be said behind a run: for each set of SAYINGS and each stage that is reached by it,
     * that of fewest GRAINS, of like ones the least.
     *
     * <p>One row for each does: what a SAYING TAKES hangs on how many are ahead of it, not on which or in what order,
     * so that a better row for a set and a stage makes each row behind it better.
     */
    private static final class Plans {
        private final int[] fewest = new int[SETS * STAGES];
        private final int[] rows = new int[SETS * STAGES];
        private final int[] worth = new int[SETS];
        /** Of the row that was sought last: its own WARMTH, its GRAINS, its figures. */
        int warmth;
        int grains;
        int row;

        private static int placeOf(int set, int stage) {
            return set * STAGES + stage;
        }

        /** All rows behind a run; there are none, if no GLASS runs in it. */
        void layBehind(Port port, Run run) {
            Arrays.fill(fewest, NONE);
            if (!run.runs()) {
                return;
            }
            offer(placeOf(0, run.stage(port)), 0, 0);
            int spoken = run.spoken();
            // A set stands behind all sets that are parts of it, so that its own rows are there when it is reached.
            for (int at = 0; at < fewest.length; at++) {
                if (fewest[at] >= 0) {
                    extend(port, run, at, spoken);
                }
            }
        }

        /** Offers each row that is one SAYING longer than that at a place. */
        private void extend(Port port, Run run, int at, int spoken) {
            if (at < 0 || at >= fewest.length || at >= rows.length) {
                return;
            }
            int set = at / STAGES;
            int used = spoken | set;
            int ahead = Integer.bitCount(used);
            for (int saying = 0; saying < port.sayings(); saying++) {
                if (isIn(used, saying)) {
                    continue;
                }
                int spent = fewest[at] + port.cost(saying, run.suitor, run.glass, ahead);
                if (spent <= run.left) {
                    int stage = stageBehind(at % STAGES, port.sort.at(saying));
                    offer(placeOf(set | 1 << saying, stage), spent, 10 * rows[at] + saying + 1);
                }
            }
        }

        private void offer(int at, int spent, int figures) {
            if (at < 0 || at >= fewest.length || at >= rows.length) {
                return;
            }
            if (fewest[at] < 0 || spent < fewest[at] || spent == fewest[at] && figures < rows[at]) {
                fewest[at] = spent;
                rows[at] = figures;
            }
        }

        /** Seeks the warmest DECLARATION; false: there is none. */
        boolean seekWarmest(Port port) {
            boolean found = false;
            for (int set = 0; set < SETS; set++) {
                if (reaches(set)) {
                    int own = port.warmthOf(set);
                    if (!found || own > warmth || own == warmth && isShorter(set)) {
                        choose(set);
                        warmth = own;
                        found = true;
                    }
                }
            }
            return found;
        }

        /** Seeks the shortest DECLARATION; false: there is none. */
        boolean seekShortest() {
            boolean found = false;
            for (int set = 0; set < SETS; set++) {
                if (reaches(set) && (!found || isShorter(set))) {
                    choose(set);
                    found = true;
                }
            }
            return found;
        }

        /** Whether a DECLARATION is reached by a set. */
        private boolean reaches(int set) {
            int at = placeOf(set, DECLARED);
            return at >= 0 && at < fewest.length && fewest[at] >= 0;
        }

        /** Whether a set's DECLARATION has fewer GRAINS than that which was chosen, or as many and is less. */
        private boolean isShorter(int set) {
            int at = placeOf(set, DECLARED);
            if (at < 0 || at >= fewest.length || at >= rows.length) {
                return false;
            }
            return fewest[at] < grains || fewest[at] == grains && rows[at] < row;
        }

        private void choose(int set) {
            int at = placeOf(set, DECLARED);
            if (at >= 0 && at < fewest.length && at < rows.length) {
                grains = fewest[at];
                row = rows[at];
            }
        }

        /** For each set the WARMTH of the WARMEST by SAYINGS of it alone; 0: there is none. */
        void weighSets(Port port) {
            for (int set = 0; set < worth.length; set++) {
                int most = reaches(set) ? port.warmthOf(set) : 0;
                for (int saying = 0; saying < MOST_SAYINGS; saying++) {
                    int without = set & ~(1 << saying);
                    // Without a saying that is in it, a set's number is less: its worth stands already.
                    if (without >= 0 && without < set) {
                        most = Math.max(most, worth[without]);
                    }
                }
                worth[set] = most;
            }
        }

        /** By how much a set's WARMEST is more when a SAYING comes to it. */
        int gainOf(int set, int saying) {
            int with = set | 1 << saying;
            if (set < 0 || set >= worth.length || with < 0 || with >= worth.length) {
                return 0;
            }
            return worth[with] - worth[set];
        }
    }
}
