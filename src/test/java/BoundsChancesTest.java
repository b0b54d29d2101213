import java.math.BigInteger;

/** Each sentence on a boundary case of RESTS, MISHEARD, THE SEED, WEEKS: part 3, promises 27 to 30. */
public final class BoundsChancesTest {
    private static final int[] NO_NUMBERS = {Integer.MIN_VALUE, Integer.MIN_VALUE + 1, -256, -9, -2, -1};
    /** Glasses of 20, 10 (cracked), 45 (red), 10 (hers); a plain suitor, a poet, a stammerer, a fisherman. */
    private static final String PORT = "EG20G11G32G13S10S21S22S13Y231Y142Y153Y470Y390";
    private static final BigInteger TWO_64 = BigInteger.ONE.shiftLeft(64);
    private static final Due due = new Due();

    private static LoveGlass undone(LoveGlass x) {
        Made.could(x.undo(), "undo");
        return x;
    }

    private static void restsRefused() {
        due.under("rests: UNKNOWN: suitor, other");
        LoveGlass x = Made.turned("EG20S10S10Y111Y112Y113", 0, 0);
        due.due("rests(-1, 0, 0)", x.rests(-1, 0, 0), -1);
        due.due("rests(0, -1, 0)", x.rests(0, -1, 0), -1);
        due.due("rests(2, 0, 0)", x.rests(2, 0, 0), -1);
        due.due("rests(0, 2, 0)", x.rests(0, 2, 0), -1);
        for (int none : NO_NUMBERS) {
            due.due("rests(" + none + ", 0, 0)", x.rests(none, 0, 0), -1);
            due.due("rests(0, " + none + ", 0)", x.rests(0, none, 0), -1);
        }
        due.due("rests(MAX, 0, 0)", x.rests(Integer.MAX_VALUE, 0, 0), -1);
        due.due("rests(0, MAX, 0)", x.rests(0, Integer.MAX_VALUE, 0), -1);
        due.due("rests(0, 1, 0)", x.rests(0, 1, 0), 1);
        due.due("rests(1, 0, 0)", x.rests(1, 0, 0), 1);
        due.due("rests(0, 1, 0) of one SUITOR", Made.turned("EG20S10", 0, 0).rests(0, 1, 0), -1);
        due.due("rests(3, 0, 0) of four", Made.turned(PORT, 0, 0).rests(3, 0, 0), 1);
        due.due("rests(4, 0, 0) of four", Made.turned(PORT, 0, 0).rests(4, 0, 0), -1);
        due.due("rests(0, 4, 0) of four", Made.turned(PORT, 0, 0).rests(0, 4, 0), -1);
        due.under("rests: BAD: both are one");
        due.due("rests(0, 0, 0)", x.rests(0, 0, 0), -2);
        due.due("rests(1, 1, 1)", x.rests(1, 1, 1), -2);
        due.under("rests: BAD: what");
        due.due("rests(0, 1, -1)", x.rests(0, 1, -1), -2);
        due.due("rests(0, 1, 1)", x.rests(0, 1, 1), 11);
        due.due("rests(0, 1, 2)", x.rests(0, 1, 2), -2);
        for (int what : NO_NUMBERS) {
            due.due("rests(0, 1, " + what + ")", x.rests(0, 1, what), -2);
        }
        due.due("rests(0, 1, MAX)", x.rests(0, 1, Integer.MAX_VALUE), -2);
        due.under("rests: LATE: no GLASS runs");
        due.due("none was turned", Made.port(PORT).rests(0, 1, 0), -3);
        due.due("it was undone", undone(Made.turned(PORT, 0, 0)).rests(0, 1, 1), -3);
        due.under("rests: UNKNOWN is told ahead of BAD");
        due.due("rests(2, 2, 0)", x.rests(2, 2, 0), -1);
        due.due("rests(-1, -1, 0)", x.rests(-1, -1, 0), -1);
        due.due("rests(0, 2, 2)", x.rests(0, 2, 2), -1);
        due.due("rests(2, 0, -1)", x.rests(2, 0, -1), -1);
        due.under("rests: UNKNOWN and BAD are told ahead of LATE");
        due.due("no such SUITOR", Made.port(PORT).rests(4, 0, 0), -1);
        due.due("no such other one", Made.port(PORT).rests(0, 4, 0), -1);
        due.due("both are one", Made.port(PORT).rests(0, 0, 0), -2);
        due.due("what", Made.port(PORT).rests(0, 1, 2), -2);
        due.due("all three", new LoveGlass().rests(0, 0, 2), -1);
    }

    private static void restsAre(String where, LoveGlass x, int one, int other, int many, int first) {
        due.due(where + ": rests(" + one + ", " + other + ", 0)", x.rests(one, other, 0), many);
        due.due(where + ": rests(" + one + ", " + other + ", 1)", x.rests(one, other, 1), first);
    }

    private static void rests() {
        // 3 grains for the suitor of pace 1, 6 for that of pace 2.
        String two = "EG20S10S20Y111Y112Y103";
        String three = "EG20S10S20Y111Y112Y113";
        due.under("RESTS: who waits has 2: none has more by as much");
        restsAre("a WARMTH of 1", Made.turned("EG20S10S20Y101Y112Y103", 0, 0), 0, 1, 1, 0);
        restsAre("a WARMTH of 2", Made.turned(two, 0, 0), 0, 1, 4, 0);
        restsAre("a WARMTH of 3", Made.turned(three, 0, 0), 0, 1, 1, 11);
        due.under("RESTS: (0: none)");
        restsAre("neither can", Made.left(2, Made.turned(three, 0, 0)), 0, 1, 1, 0);
        restsAre("nothing is left", Made.left(0, Made.turned(three, 0, 0)), 0, 1, 1, 0);
        restsAre("no SAYINGS", Made.turned("EG20S10S10", 0, 0), 0, 1, 1, 0);
        due.under("RESTS: with as many GRAINS as are left, who talks alone");
        restsAre("3 left: the one alone can", Made.left(3, Made.turned(three, 0, 0)), 0, 1, 1, 10);
        restsAre("3 left: the other way round", Made.left(3, Made.turned(three, 0, 0)), 1, 0, 1, 1);
        restsAre("5 left: the one alone can", Made.left(5, Made.turned(three, 0, 0)), 0, 1, 1, 10);
        due.under("RESTS: if both do, each has that with half as many GRAINS (cut)");
        restsAre("12 left: both can by half of it", Made.left(12, Made.turned(three, 0, 0)), 0, 1, 1, 11);
        restsAre("11 left: the one can by half of it", Made.left(11, Made.turned(three, 0, 0)), 0, 1, 1, 10);
        restsAre("11 left: the other way round", Made.left(11, Made.turned(three, 0, 0)), 1, 0, 1, 1);
        String alike = "EG20S10S10Y111Y112Y113";
        restsAre("6 left: half is 3", Made.left(6, Made.turned(alike, 0, 0)), 0, 1, 1, 11);
        restsAre("5 left: half is 2", Made.left(5, Made.turned(alike, 0, 0)), 0, 1, 2, 1);
        due.under("RESTS: pairs in which neither has more by another choice alone: how many, the first one");
        restsAre("three of four", Made.left(9, Made.turned(two, 0, 0)), 0, 1, 3, 0);
        restsAre("three of four, the other way round", Made.left(9, Made.turned(two, 0, 0)), 1, 0, 3, 0);
        restsAre("two of four", Made.left(5, Made.turned(alike, 0, 0)), 1, 0, 2, 1);
        due.under("RESTS: nothing SAID: what is SAID does not count");
        restsAre("all is SAID", Made.left(6, Made.turned(alike, 0, 0, 2, 1, 0)), 0, 1, 1, 11);
        restsAre("a STAMMERER's first again", Made.left(3, Made.turned("EG20S12S12Y111Y112Y113", 0, 0, 0)), 0, 1, 1, 0);
        due.under("RESTS: at the GLASS that runs, for whomever it does");
        restsAre("a CRACKED one: 9", Made.left(9, Made.turned("EG90G11S10S10S40Y111Y112Y113", 1, 2)), 0, 1, 2, 1);
        restsAre("a CRACKED one: 8", Made.left(8, Made.turned("EG90G11S10S10S40Y111Y112Y113", 1, 2)), 0, 1, 1, 0);
    }

    private static void misheardIs(String where, LoveGlass x, int tenths, int above, int below) {
        due.due(where + ": misheard(" + tenths + ", true)", x.misheard(tenths, true), above);
        due.due(where + ": misheard(" + tenths + ", false)", x.misheard(tenths, false), below);
    }

    private static void misheard() {
        due.under("misheard: BAD: x (0 .. 10)");
        LoveGlass x = Made.turned(PORT, 0, 0, 0, 1, 2);
        misheardIs("-1", x, -1, -2, -2);
        misheardIs("0", x, 0, 1, 1);
        misheardIs("10", x, 10, 0, 1);
        misheardIs("11", x, 11, -2, -2);
        for (int tenths : NO_NUMBERS) {
            due.due("misheard(" + tenths + ", true)", x.misheard(tenths, true), -2);
        }
        due.due("misheard(MAX, false)", x.misheard(Integer.MAX_VALUE, false), -2);
        due.due("misheard(11, true), no GLASS runs", Made.port(PORT).misheard(11, true), -2);
        due.under("MISHEARD: no GLASS runs, or nothing is SAID: 0 by 1");
        for (int tenths = 0; tenths <= 10; tenths++) {
            misheardIs("a new object", new LoveGlass(), tenths, 0, 1);
            misheardIs("nothing is SAID", Made.turned(PORT, 0, 0), tenths, 0, 1);
            misheardIs("no DECLARATION is SAID", Made.turned(PORT, 0, 0, 0, 1, 3), tenths, 0, 1);
        }
        due.under("MISHEARD: a FRACTION in least terms");
        int[][] cubes = {{1, 1}, {729, 1000}, {64, 125}, {343, 1000}, {27, 125}, {1, 8}, {8, 125}, {27, 1000}, {1, 125},
            {1, 1000}, {0, 1}};
        for (int tenths = 0; tenths <= 10; tenths++) {
            misheardIs("three", x, tenths, cubes[tenths][0], cubes[tenths][1]);
        }
        due.under("MISHEARD: others wherever they are do not count");
        x = Made.turned(PORT, 0, 0, 3, 0, 4, 1, 2);
        misheardIs("five", x, 1, 729, 1000);
        due.under("MISHEARD: six SAID at most: each by itself");
        String six = "EG90S10Y111Y111Y112Y112Y113Y113";
        x = Made.turned(six, 0, 0, 0, 1, 2, 3, 4, 5);
        // One of each two: 1 - 1 / 4 each, 1 - 1 / 100 each.
        misheardIs("two of each", x, 5, 27, 64);
        misheardIs("two of each", x, 1, 970299, 1000000);
        misheardIs("two of each", x, 0, 1, 1);
        misheardIs("two of each", x, 9, 6859, 1000000);
        due.under("MISHEARD: in the order in which they are SAID");
        x = Made.turned(six, 0, 0, 0, 2, 4, 1, 3, 5);
        // Of what can be heard of the six, 64 in all, 20 have the three in their order.
        misheardIs("twice the three", x, 5, 5, 16);
        misheardIs("in the wrong order", Made.turned(six, 0, 0, 4, 2, 0), 5, 0, 1);
        due.under("misheard changes nothing");
        x = Made.turned(PORT, 0, 0, 0, 1, 2);
        x.misheard(3, true);
        x.misheard(11, true);
        due.due("what later calls show", Later.shows(x), Later.shows(Made.turned(PORT, 0, 0, 0, 1, 2)));
    }

    private static void seeds() {
        due.under("THE SEED, a long; 0 at first; seed: what it was");
        LoveGlass x = new LoveGlass();
        long[] all = {0, 1, -1, -2, -9, Long.MAX_VALUE, Long.MIN_VALUE, 1L << 32, -(1L << 32), 5};
        long was = 0;
        for (long v : all) {
            due.due("seed(" + v + ")", x.seed(v), was);
            was = v;
        }
        due.under("seed: it is no ACT, and stays when the rest changes");
        Made.anew(x, PORT);
        Made.could(x.turn(0, 0), "turn");
        Made.could(x.keep(0), "keep");
        due.due("ACTS", x.about(10), 1);
        due.due("seed(6)", x.seed(6), 5);
        Made.could(x.undo(), "undo");
        Made.could(x.again(0), "again");
        due.due("seed(7)", x.seed(7), 6);
    }

    /** What a seed is behind so many weeks, in numbers without a bound. */
    private static long behind(long seed, int weeks) {
        BigInteger x = BigInteger.valueOf(seed);
        for (int i = 0; i < weeks; i++) {
            x = x.multiply(new BigInteger("6364136223846793005")).add(new BigInteger("1442695040888963407")).mod(TWO_64);
        }
        return x.longValue();
    }

    private static void weeksRefused() {
        due.under("weeks: BAD: m (1 .. 30)");
        LoveGlass x = Made.turned(PORT, 0, 0, 0, 1);
        due.due("weeks(0)", x.weeks(0), -2);
        due.due("weeks(31)", x.weeks(31), -2);
        for (int m : NO_NUMBERS) {
            due.due("weeks(" + m + ")", x.weeks(m), -2);
        }
        due.due("weeks(MAX)", x.weeks(Integer.MAX_VALUE), -2);
        due.under("weeks: BAD changes nothing, not THE SEED");
        due.due("seed(3)", x.seed(3), 0);
        due.due("what later calls show", Later.shows(undone(x)), Later.shows(seeded(3, undone(Made.turned(PORT, 0, 0, 0, 1)))));
        due.under("weeks: m times (1 .. 30) THE SEED becomes another");
        for (int m = 1; m <= 30; m++) {
            x = new LoveGlass();
            due.due("weeks(" + m + ") of a new object", x.weeks(m), 0);
            due.due("THE SEED behind it", x.seed(0), behind(0, m));
        }
        due.under("WEEKS: 64 bits, wrapping");
        long[] all = {1, -1, Long.MAX_VALUE, Long.MIN_VALUE, Long.MIN_VALUE + 1, 1L << 32, (1L << 32) - 1, 1L << 62, -77};
        for (long v : all) {
            x = seeded(v, Made.port(PORT));
            Made.could(x.weeks(1), "weeks");
            due.due("THE SEED behind " + v, x.seed(v), behind(v, 1));
            Made.could(x.weeks(30), "weeks");
            due.due("THE SEED 30 weeks behind " + v, x.seed(0), behind(v, 30));
        }
    }

    private static LoveGlass seeded(long v, LoveGlass x) {
        x.seed(v);
        return x;
    }

    /** One week's doing, by the least and by the highest upper 31 bits that tell it, behind sayings in glass 0. */
    private static void weekIs(String where, int doing, int often, int... said) {
        long[] uppers = {doing, doing + 28, doing + 28L * 38347921, doing + 28L * 38347923, doing + 28L * 76695843};
        for (long upper : uppers) {
            for (long low : new long[] {0, 1, (1L << 33) - 1}) {
                LoveGlass x = seeded(Seeds.before(upper << 33 | low), Made.turned(PORT, 0, 0, said));
                due.due(where + ": weeks(1), upper bits " + upper + ", lower bits " + low, x.weeks(1), often);
                due.due("THE SEED", x.seed(0), upper << 33 | low);
            }
        }
    }

    private static void weekBits() {
        due.under("WEEKS: what is left of its upper 31 bits by 28: from 0 to the highest");
        weekIs("the ASK", 18, 1, 0, 1);
        weekIs("the NAME", 16, 0, 1, 2);
        weekIs("a FILLER behind a DECLARATION", 19, 1, 0, 1, 2);
        weekIs("the last of all", 27, 0, 0, 1, 2);
        weekIs("the first of all", 0, 0, 0, 1, 2);
        due.under("WEEKS: what is left of the highest 31 bits: 15");
        // 2 to the 31st, less 1, by 28: the GLASS 3 is TURNED for SUITOR 3, so that nothing is SAID.
        LoveGlass x = seeded(Seeds.before(-1), Made.turned(PORT, 0, 0, 0, 1));
        due.due("weeks(1)", x.weeks(1), 0);
        due.due("THE SEED", x.seed(0), -1);
    }

    private static void weekTurns() {
        due.under("WEEKS: 0 .. 15: by 4 (down) a GLASS, left by 4 a SUITOR, if there are such");
        int[][] sizes = {{1, 1}, {2, 3}, {3, 2}, {4, 1}, {1, 4}, {4, 4}};
        for (int[] size : sizes) {
            StringBuilder port = new StringBuilder("E");
            for (int i = 0; i < 4; i++) {
                port.append(i < size[0] ? "G20" : "").append(i < size[1] ? "S10" : "");
            }
            port.append("Y111Y112Y113");
            for (int doing = 0; doing < 16; doing++) {
                boolean are = doing / 4 < size[0] && doing % 4 < size[1];
                LoveGlass x = seeded(Seeds.beforeAll(doing, 18), Made.turned(port.toString(), 0, 0, 0, 1));
                due.due(port + ": turned by " + doing + ", then the ASK", x.weeks(2), are ? 0 : 1);
            }
        }
        due.under("WEEKS: the GLASS is TURNED for the SUITOR, with all its GRAINS, nothing is SAID");
        int[] can = {15, 1, 15, 11};
        for (int doing = 0; doing < 16; doing++) {
            LoveGlass x = seeded(Seeds.beforeAll(doing, 16, 17, 18), Made.left(0, Made.turned(PORT, 0, 0, 0)));
            due.due("turned by " + doing + ", then name, vow, ask", x.weeks(4), can[doing / 4] >> doing % 4 & 1);
        }
        due.under("WEEKS: 0 .. 15: that GLASS and that SUITOR, no other ones");
        for (int doing = 0; doing < 16; doing++) {
            long seed = Seeds.beforeAll(doing, 16, 17, 18);
            for (int which = 0; which < 4; which++) {
                // 15 of 20; 21 in a CRACKED one, 30 by PACE 2.
                LoveGlass x = seeded(seed, Made.port(portBut(which, 'G')));
                due.due("turned by " + doing + ", GLASS " + which + " is CRACKED", x.weeks(4), doing / 4 == which ? 0 : 1);
                x = seeded(seed, Made.port(portBut(which, 'S')));
                due.due("turned by " + doing + ", SUITOR " + which + " is slow", x.weeks(4), doing % 4 == which ? 0 : 1);
            }
        }
        due.under("WEEKS: no GLASS runs: one is TURNED first");
        LoveGlass x = seeded(Seeds.beforeAll(0, 16, 17, 18), Made.port(PORT));
        due.due("weeks(4)", x.weeks(4), 1);
        due.due("none runs behind it", x.about(3), -9);
        x = seeded(Seeds.beforeAll(16, 17, 18), Made.port(PORT));
        due.due("weeks(3) with none", x.weeks(3), 0);
    }

    /** Four glasses and four suitors alike, but for one of them. */
    private static String portBut(int which, char part) {
        StringBuilder port = new StringBuilder("E");
        for (int i = 0; i < 4; i++) {
            port.append(i == which && part == 'G' ? "G21" : "G20").append(i == which && part == 'S' ? "S20" : "S10");
        }
        return port.append("Y511Y512Y513").toString();
    }

    private static void weekSayings() {
        due.under("WEEKS: 16 .. 21: less 16 a SAYING that is SAID, if it can be");
        for (int ask = 0; ask < 6; ask++) {
            StringBuilder port = new StringBuilder("EG90S10");
            for (int saying = 0; saying < 6; saying++) {
                int sort = saying == ask ? 3 : saying == (ask + 1) % 6 ? 1 : saying == (ask + 2) % 6 ? 2 : 0;
                port.append("Y11").append(sort);
            }
            for (int doing = 16; doing < 28; doing++) {
                LoveGlass x = Made.turned(port.toString(), 0, 0, (ask + 1) % 6, (ask + 2) % 6);
                x = seeded(Seeds.beforeAll(doing), x);
                due.due("ASK " + ask + ", doing " + doing, x.weeks(1), doing - 16 == ask ? 1 : 0);
            }
        }
        due.under("WEEKS: a SAYING that there is not, that is SAID, that TAKES more: it can not be");
        weekIs("there is none", 21, 0, 0, 1, 2);
        weekIs("it is SAID", 16, 0, 0, 1, 2);
        due.due("4 of 4", seeded(Seeds.beforeAll(19), Made.left(4, Made.turned(PORT, 0, 0, 0, 1, 2))).weeks(1), 1);
        due.due("4 of 3", seeded(Seeds.beforeAll(19), Made.left(3, Made.turned(PORT, 0, 0, 0, 1, 2))).weeks(1), 0);
        due.under("WEEKS: how often it is a DECLARATION behind a SAYING that was SAID");
        LoveGlass x = seeded(Seeds.beforeAll(18, 19, 20), Made.turned(PORT, 0, 0, 0, 1));
        due.due("three times", x.weeks(3), 3);
        x = seeded(Seeds.beforeAll(18, 19, 19), Made.turned(PORT, 0, 0, 0, 1));
        due.due("twice: the third is SAID", x.weeks(3), 2);
        x = seeded(Seeds.beforeAll(18, 22, 20), Made.turned(PORT, 0, 0, 0, 1));
        due.due("twice: the second is DRAWN", x.weeks(3), 2);
        x = seeded(Seeds.beforeAll(18, 0, 16), Made.turned(PORT, 0, 0, 0, 1));
        due.due("once: the second is TURNED", x.weeks(3), 1);
    }

    private static void weekDraws() {
        due.under("WEEKS: 22 .. 27: less 21 is DRAWN");
        for (int n = 1; n <= 6; n++) {
            LoveGlass x = seeded(Seeds.beforeAll(21 + n, 18), Made.left(n + 1, Made.turned(PORT, 0, 0, 0, 1)));
            due.due(n + " of " + (n + 1) + ", then the ASK of 1", x.weeks(2), 1);
            x = seeded(Seeds.beforeAll(21 + n, 18), Made.left(n, Made.turned(PORT, 0, 0, 0, 1)));
            due.due(n + " of " + n + ", then the ASK of 1", x.weeks(2), 0);
        }
        due.under("WEEKS: DRAWN (0 at least), if it can be");
        String free = "EG20S11Y101Y102Y103Y100Y300";
        LoveGlass x = seeded(Seeds.beforeAll(27, 19, 20), Made.left(3, Made.turned(free, 0, 0, 0, 1, 2)));
        due.due("6 of 3, then 0 of 0, then 1 of 0", x.weeks(3), 1);
        x = seeded(Seeds.beforeAll(22, 19, 20), Made.left(0, Made.turned(free, 0, 0, 0, 1, 2)));
        due.due("1 of 0, then 0 of 0, then 1 of 0", x.weeks(3), 1);
    }

    private static void weeksChangeTheSeed() {
        due.under("WEEKS: (Nothing changes but THE SEED.)");
        for (int m = 1; m <= 30; m++) {
            LoveGlass x = seeded(m * 7919L, Made.turned(PORT, 0, 0, 0));
            LoveGlass y = seeded(behind(m * 7919L, m), Made.turned(PORT, 0, 0, 0));
            Made.could(x.keep(1), "keep");
            Made.could(y.keep(1), "keep");
            Made.could(x.weeks(m), "weeks");
            due.due("what later calls show behind weeks(" + m + ")", Later.shows(x), Later.shows(y));
        }
        due.under("WEEKS: each call goes on from THE SEED, and begins with what runs");
        LoveGlass x = seeded(Seeds.beforeAll(18, 19, 18), Made.turned(PORT, 0, 0, 0, 1));
        due.due("the ASK", x.weeks(1), 1);
        due.due("a FILLER, the ASK not SAID", x.weeks(1), 0);
        due.due("the ASK", x.weeks(1), 1);
        due.under("WEEKS: m weeks are as many of one week in what they make of THE SEED");
        x = seeded(99, new LoveGlass());
        LoveGlass y = seeded(99, new LoveGlass());
        Made.could(x.weeks(30), "weeks");
        for (int i = 0; i < 30; i++) {
            Made.could(y.weeks(1), "weeks");
        }
        due.due("THE SEED", x.seed(0), y.seed(0));
    }

    private static void restsChangeNothing() {
        due.under("rests changes nothing");
        LoveGlass x = Made.turned(PORT, 0, 0, 0, 1, 2);
        x.rests(0, 1, 0);
        x.rests(2, 3, 1);
        due.due("what later calls show", Later.shows(x), Later.shows(Made.turned(PORT, 0, 0, 0, 1, 2)));
    }

    public static void main(String[] args) {
        restsRefused();
        rests();
        restsChangeNothing();
        misheard();
        seeds();
        weeksRefused();
        weekBits();
        weekTurns();
        weekSayings();
        weekDraws();
        weeksChangeTheSeed();
        due.end();
    }
}
