/** Each sentence on a boundary case of WARMEST, SHORTEST, CAN, DOES, MATCHED, JUDGED, SHARE: part 2, promises 17 to 23. */
public final class BoundsDeclarationsTest {
    private static final int[] NO_NUMBERS = {Integer.MIN_VALUE, Integer.MIN_VALUE + 1, -256, -9, -2, -1};
    /** Glasses of 20, 10 (cracked), 45 (red), 10 (hers); a plain suitor, a poet, a stammerer, a fisherman. */
    private static final String PORT = "EG20G11G32G13S10S21S22S13Y231Y142Y153Y470Y390";
    /** A name, a vow, an ask of one letter each. */
    private static final String THREE = "Y111Y112Y113";
    private static final Due due = new Due();

    private static void warmestIs(String where, LoveGlass x, int warmth, int row) {
        due.due(where + ": warmest(false)", x.warmest(false), warmth);
        due.due(where + ": warmest(true)", x.warmest(true), row);
    }

    private static void shortestIs(String where, LoveGlass x, int grains, int row) {
        due.due(where + ": shortest(false)", x.shortest(false), grains);
        due.due(where + ": shortest(true)", x.shortest(true), row);
    }

    private static LoveGlass undone(LoveGlass x) {
        Made.could(x.undo(), "undo");
        return x;
    }

    private static void warmestNone() {
        due.under("WARMEST: NONE: no GLASS is turned");
        warmestIs("a new object", new LoveGlass(), -9, -9);
        warmestIs("none was turned", Made.port(PORT), -9, -9);
        warmestIs("it was undone", undone(Made.turned(PORT, 0, 0)), -9, -9);
        due.under("WARMEST: NONE: by none it is a DECLARATION");
        warmestIs("no SAYINGS", Made.turned("EG90S10", 0, 0), -9, -9);
        warmestIs("no NAME", Made.turned("EG90S10Y112Y113Y110", 0, 0), -9, -9);
        warmestIs("no VOW", Made.turned("EG90S10Y111Y113Y110", 0, 0), -9, -9);
        warmestIs("no ASK", Made.turned("EG90S10Y111Y112Y110", 0, 0), -9, -9);
        warmestIs("the NAME is SAID behind the VOW", Made.turned(PORT, 0, 0, 1, 0), -9, -9);
        warmestIs("the ASK is SAID ahead of the VOW", Made.turned(PORT, 0, 0, 0, 2), -9, -9);
        due.under("WARMEST: a WARMTH of 0 is not NONE");
        warmestIs("all of WARMTH 0", Made.turned("EG10S10Y101Y102Y103", 0, 0), 0, 123);
        warmestIs("it is SAID", Made.turned("EG10S10Y101Y102Y103", 0, 0, 0, 1, 2), 0, 0);
    }

    private static void warmestCan() {
        String port = "EG20S10Y231Y142Y153Y470";
        due.under("WARMEST: that can be SAID now: TAKES no more GRAINS than are left");
        warmestIs("9 left", Made.left(9, Made.turned(port, 0, 0)), 19, 1234);
        warmestIs("8 left", Made.left(8, Made.turned(port, 0, 0)), 19, 1234);
        warmestIs("7 left", Made.left(7, Made.turned(port, 0, 0)), 12, 123);
        warmestIs("4 left", Made.left(4, Made.turned(port, 0, 0)), 12, 123);
        warmestIs("3 left", Made.left(3, Made.turned(port, 0, 0)), -9, -9);
        warmestIs("none left", Made.left(0, Made.turned(port, 0, 0)), -9, -9);
        due.under("WARMEST: none: what is SAID as it is (0: nothing more)");
        warmestIs("all is SAID", Made.turned(port, 0, 0, 3, 0, 1, 2), 19, 0);
        warmestIs("one more TAKES 4 of 4", Made.left(4, Made.turned(port, 0, 0, 0, 1, 2)), 19, 4);
        warmestIs("one more TAKES 4 of 3", Made.left(3, Made.turned(port, 0, 0, 0, 1, 2)), 12, 0);
        warmestIs("none is left", Made.left(0, Made.turned(port, 0, 0, 0, 1, 2)), 12, 0);
        due.under("WARMEST: SAYINGS not SAID; WARMTH of all that is SAID then");
        warmestIs("the FILLER is SAID", Made.turned(port, 0, 0, 3), 19, 123);
        warmestIs("FILLER and NAME are SAID", Made.turned(port, 0, 0, 3, 0), 19, 23);
        warmestIs("but for the ASK all is SAID", Made.turned(port, 0, 0, 0, 3, 1), 19, 3);
        due.under("WARMEST: what each TAKES is by its place behind those SAID");
        warmestIs("a FISHERMAN's 1, 2, 3 of 6", Made.left(6, Made.turned("EG10S13" + THREE, 0, 0)), 3, 123);
        warmestIs("a FISHERMAN's 1, 2, 3 of 5", Made.left(5, Made.turned("EG10S13" + THREE, 0, 0)), -9, -9);
        warmestIs("behind one: 2, 3, 4 of 9", Made.left(9, Made.turned("EG20S13" + THREE + "Y100", 0, 0, 3)), 3, 123);
        warmestIs("behind one: 2, 3, 4 of 8", Made.left(8, Made.turned("EG20S13" + THREE + "Y100", 0, 0, 3)), -9, -9);
        warmestIs("a STAMMERER's 2, 1, 1 of 4", Made.left(4, Made.turned("EG10S12" + THREE, 0, 0)), 3, 123);
        warmestIs("a STAMMERER's 2, 1, 1 of 3", Made.left(3, Made.turned("EG10S12" + THREE, 0, 0)), -9, -9);
        warmestIs("a STAMMERER's 1, 1 of 2", Made.left(2, Made.turned("EG10S12" + THREE, 0, 0, 0)), 3, 23);
        warmestIs("in a CRACKED GLASS 3, 3, 3 of 9", Made.left(9, Made.turned("EG11S10" + THREE, 0, 0)), 3, 123);
        warmestIs("in a CRACKED GLASS 3, 3, 3 of 8", Made.left(8, Made.turned("EG11S10" + THREE, 0, 0)), -9, -9);
    }

    private static void warmestLike() {
        due.under("WARMEST: that of most WARMTH, be it of more GRAINS");
        warmestIs("one FILLER of two", Made.left(12, Made.turned("EG20S10" + THREE + "Y980Y170", 0, 0)), 11, 1234);
        due.under("WARMEST: of like ones that of fewest GRAINS, be it not the least");
        warmestIs("two NAMES of WARMTH 0", Made.turned("EG20S10Y201Y101Y112Y113", 0, 0), 2, 234);
        warmestIs("a FILLER of WARMTH 0 is left out", Made.turned("EG20S10Y100Y111Y112Y113", 0, 0), 3, 234);
        warmestIs("the STAMMERER has the short one first", Made.turned("EG90S12Y911Y112Y113Y110", 0, 0), 4, 4123);
        due.under("WARMEST: then the least (figures, 1 more each, as a number)");
        warmestIs("two NAMES alike", Made.turned("EG20S10Y101Y101Y112Y113", 0, 0), 2, 134);
        warmestIs("one of two FILLERS, as GRAINS are", Made.left(4, Made.turned("EG10S10" + THREE + "Y110Y110", 0, 0)), 4, 1234);
        warmestIs("each order is as good", Made.turned("EG90S10Y110Y113Y112Y111Y110", 0, 0), 5, 14325);
        warmestIs("told backwards", Made.turned("EG90S10Y113Y112Y111Y110Y110Y110", 0, 0), 6, 321456);
        warmestIs("a VOW ahead of the NAME, another one behind it", Made.turned("EG90S10Y112Y111Y113Y112", 0, 0), 4, 1243);
        warmestIs("FILLERS that TAKE none", Made.turned("EG90S11Y110Y110" + THREE, 0, 0), 5, 12345);
        warmestIs("all six", Made.turned("EG90S10Y110Y110Y110Y111Y112Y113", 0, 0), 6, 123456);
        due.under("WARMEST: the least as a number: the shorter one");
        warmestIs("one FILLER for two", Made.left(5, Made.turned("EG10S10Y120Y120Y111Y112Y113Y240", 0, 0)), 7, 3456);
        warmestIs("a FILLER that TAKES none and has no WARMTH", Made.turned("EG90S11Y100" + THREE, 0, 0), 3, 234);
        warmestIs("the same behind a DECLARATION", Made.turned("EG90S11Y100" + THREE, 0, 0, 1, 2, 3), 3, 0);
        warmestIs("one that TAKES none, but is warm", Made.turned("EG90S11Y110" + THREE, 0, 0, 1, 2, 3), 4, 1);
    }

    private static void shortestNone() {
        due.under("SHORTEST: NONE: no GLASS is turned");
        shortestIs("a new object", new LoveGlass(), -9, -9);
        shortestIs("none was turned", Made.port(PORT), -9, -9);
        shortestIs("it was undone", undone(Made.turned(PORT, 0, 0)), -9, -9);
        due.under("SHORTEST: NONE: by none it is a DECLARATION");
        shortestIs("no SAYINGS", Made.turned("EG90S10", 0, 0), -9, -9);
        shortestIs("no NAME", Made.turned("EG90S10Y112Y113Y110", 0, 0), -9, -9);
        shortestIs("no VOW", Made.turned("EG90S10Y111Y113Y110", 0, 0), -9, -9);
        shortestIs("no ASK", Made.turned("EG90S10Y111Y112Y110", 0, 0), -9, -9);
        shortestIs("the NAME is SAID behind the VOW", Made.turned(PORT, 0, 0, 1, 0), -9, -9);
        due.under("SHORTEST: that can be SAID now: TAKES no more GRAINS than are left");
        shortestIs("4 of 4", Made.left(4, Made.turned(PORT, 0, 0)), 4, 123);
        shortestIs("4 of 3", Made.left(3, Made.turned(PORT, 0, 0)), -9, -9);
        shortestIs("a CRACKED one: 10 of 10", Made.turned(PORT, 1, 0), 10, 123);
        shortestIs("a CRACKED one: 10 of 9", Made.left(9, Made.turned(PORT, 1, 0)), -9, -9);
        shortestIs("a FISHERMAN's 2, 2, 3 of 7", Made.left(7, Made.turned(PORT, 0, 3)), 7, 123);
        shortestIs("a FISHERMAN's 2, 2, 3 of 6", Made.left(6, Made.turned(PORT, 0, 3)), -9, -9);
        due.under("SHORTEST: none: what is SAID as it is (0: nothing more)");
        shortestIs("it is a DECLARATION", Made.turned(PORT, 0, 0, 0, 1, 2), 0, 0);
        shortestIs("none is left", Made.left(0, Made.turned(PORT, 0, 0, 0, 1, 2)), 0, 0);
        shortestIs("a FILLER that TAKES none is not SAID", Made.turned("EG90S11Y190" + THREE, 0, 0, 1, 2, 3), 0, 0);
    }

    private static void shortestLike() {
        due.under("SHORTEST: how many GRAINS: of what is SAID behind what is SAID");
        shortestIs("NAME and VOW are SAID", Made.turned(PORT, 0, 0, 0, 1), 1, 3);
        shortestIs("the NAME is SAID", Made.turned(PORT, 0, 0, 0), 2, 23);
        shortestIs("FILLERS are SAID", Made.turned(PORT, 0, 0, 3, 4), 4, 123);
        due.under("SHORTEST: that of fewest GRAINS, be it of less WARMTH, not the least, or of more SAYINGS");
        shortestIs("of less WARMTH", Made.turned("EG90S10Y291Y101Y112Y113", 0, 0), 3, 234);
        shortestIs("not the least", Made.turned("EG90S10Y311Y111Y112Y113Y113", 0, 0), 3, 234);
        shortestIs("a STAMMERER's FILLER first", Made.turned("EG90S12Y911Y112Y113Y110", 0, 0), 13, 4123);
        due.under("SHORTEST: of like ones the least");
        shortestIs("two NAMES alike", Made.turned("EG90S10Y101Y191Y112Y113", 0, 0), 3, 134);
        shortestIs("two of each", Made.turned("EG90S10Y113Y112Y111Y113Y112Y111", 0, 0), 3, 321);
        shortestIs("what TAKES none is left out", Made.turned("EG90S11Y190" + THREE, 0, 0), 3, 234);
    }

    private static void canIn() {
        due.under("can: UNKNOWN");
        LoveGlass x = Made.port("EG10G10S10" + THREE);
        due.due("can(-1)", x.can(-1), -1);
        due.due("can(0)", x.can(0), 1);
        due.due("can(1)", x.can(1), 1);
        due.due("can(2)", x.can(2), -1);
        for (int glass : NO_NUMBERS) {
            due.due("can(" + glass + ")", x.can(glass), -1);
        }
        due.due("can(MAX)", x.can(Integer.MAX_VALUE), -1);
        due.due("can(3) of four", Made.port(PORT).can(3), 11);
        due.due("can(4) of four", Made.port(PORT).can(4), -1);
        due.due("can(0) of a new object", new LoveGlass().can(0), -1);
        due.under("CAN of a GLASS: SUITORS (bits)");
        due.due("no SUITORS", Made.port("EG90" + THREE).can(0), 0);
        due.due("no SAYINGS", Made.port("EG90S10").can(0), 0);
        due.due("none of four", Made.port("EG10S40S40S40S40" + THREE).can(0), 0);
        due.due("the last of four", Made.port("EG10S40S40S40S10" + THREE).can(0), 8);
        due.due("the first of four", Made.port("EG10S10S40S40S40" + THREE).can(0), 1);
        due.due("all four", Made.port("EG10S10S20S30S10" + THREE).can(0), 15);
        due.under("CAN: TAKES no more than all GRAINS of the GLASS");
        due.due("PLAIN: 10 of 10", Made.port("EG10S10Y411Y312Y313").can(0), 1);
        due.due("PLAIN: 11 of 10", Made.port("EG10S10Y411Y412Y313").can(0), 0);
        due.due("CRACKED: 10 of 10", Made.port("EG11S10Y211Y112Y113").can(0), 1);
        due.due("CRACKED: 11 of 10", Made.port("EG11S10Y211Y212Y113").can(0), 0);
        due.due("RED: 15 of 15", Made.port("EG12S10Y511Y512Y513").can(0), 1);
        due.due("RED: 16 of 15", Made.port("EG12S10Y611Y512Y513").can(0), 0);
        due.due("HERS: 10 of 10", Made.port("EG13S10Y411Y312Y313").can(0), 1);
        due.due("HERS: 11 of 10", Made.port("EG13S10Y411Y412Y313").can(0), 0);
        due.under("CAN: TURNED for them: what runs, is left or is SAID does not count");
        x = Made.left(0, Made.turned(PORT, 0, 0, 2, 1, 0));
        int[] all = {15, 1, 15, 11};
        for (int glass = 0; glass < 4; glass++) {
            due.due("can(" + glass + ")", x.can(glass), all[glass]);
        }
    }

    private static void doesIn() {
        due.under("does: UNKNOWN");
        LoveGlass x = Made.port("EG10S10S10" + THREE);
        due.due("does(-1)", x.does(-1), -1);
        due.due("does(0)", x.does(0), 0);
        due.due("does(1)", x.does(1), 0);
        due.due("does(2)", x.does(2), -1);
        for (int suitor : NO_NUMBERS) {
            due.due("does(" + suitor + ")", x.does(suitor), -1);
        }
        due.due("does(MAX)", x.does(Integer.MAX_VALUE), -1);
        due.due("does(3) of four", Made.port(PORT).does(3), 3);
        due.due("does(4) of four", Made.port(PORT).does(4), -1);
        due.due("does(0) of a new object", new LoveGlass().does(0), -1);
        due.under("DOES: NONE");
        due.due("no GLASSES", Made.port("ES10" + THREE).does(0), -9);
        due.due("no SAYINGS", Made.port("EG90S10").does(0), -9);
        due.due("too slow in all", Made.port("EG10G11G10S40" + THREE).does(0), -9);
        due.under("DOES: the GLASS of fewest GRAINS in which it CAN");
        due.due("the last one", Made.port("EG40G30G20G10S10" + THREE).does(0), 3);
        due.due("the first one", Made.port("EG10G20G30G40S10" + THREE).does(0), 0);
        due.due("in that of 10 it can not", Made.port("EG40G10G30G20S40" + THREE).does(0), 3);
        due.due("not in a CRACKED one", Made.port("EG11G10S20" + THREE).does(0), 1);
        due.due("RED: 15 is more than 10", Made.port("EG12G10S10" + THREE).does(0), 1);
        due.due("RED: 15 is less than 20", Made.port("EG20G12S10" + THREE).does(0), 1);
        due.under("DOES: of like ones the least");
        due.due("PLAIN and HERS", Made.port("EG20G13G10S10" + THREE).does(0), 1);
        due.due("RED 30 and PLAIN 30", Made.port("EG90G22G30S10" + THREE).does(0), 1);
        due.due("PLAIN 30 and RED 30", Made.port("EG90G30G22S10" + THREE).does(0), 1);
        due.due("four alike", Made.port("EG10G10G10G10S10" + THREE).does(0), 0);
        due.under("DOES: what runs, is left or is SAID does not count");
        due.due("does(0)", Made.left(0, Made.turned(PORT, 0, 0, 2, 1, 0)).does(0), 1);
    }

    private static void matchedIs(String port, int many, int way) {
        LoveGlass x = Made.port(port);
        due.due("matched(false) of " + port, x.matched(false), many);
        due.due("matched(true) of " + port, x.matched(true), way);
    }

    private static void matches() {
        due.under("MATCHED: none: the way is of 0 alone, behind a 1");
        due.due("matched(false) of a new object", new LoveGlass().matched(false), 0);
        due.due("matched(true) of a new object", new LoveGlass().matched(true), 1);
        matchedIs("EG10G10G10G10", 0, 1);
        matchedIs("EG10" + THREE, 0, 1);
        matchedIs("ES10" + THREE, 0, 10);
        matchedIs("ES10S10S10S10" + THREE, 0, 10000);
        matchedIs("EG10G10G10G10S10S10S10S10", 0, 10000);
        matchedIs("EG10S40" + THREE, 0, 10);
        due.under("MATCHED: by which most CAN: all four");
        matchedIs("EG10G10G10G10S10S10S10S10" + THREE, 4, 11234);
        matchedIs("EG20G10G10G10S10S10S10S40" + THREE, 4, 12341);
        matchedIs("EG10G10G10G20S40S10S10S10" + THREE, 4, 14123);
        due.under("MATCHED: each GLASS for one at most");
        matchedIs("EG90S10S10S10S10" + THREE, 1, 10001);
        matchedIs("EG90G90S10S10S10" + THREE, 2, 1012);
        due.under("MATCHED: each SUITOR one at most");
        matchedIs("EG90G90G90G90S10" + THREE, 1, 11);
        matchedIs("EG90G90G90G90S40S10" + THREE, 2, 112);
        due.under("MATCHED: the GLASS and 1, from the first to the last");
        matchedIs("EG20G10G10G10S40" + THREE, 1, 11);
        matchedIs("EG10G20G10G10S40" + THREE, 1, 12);
        matchedIs("EG10G10G20G10S40" + THREE, 1, 13);
        matchedIs("EG10G10G10G20S40" + THREE, 1, 14);
        due.under("MATCHED: of like ones the least");
        matchedIs("EG10G20S10S10" + THREE, 2, 112);
        matchedIs("EG10G20S10S40" + THREE, 2, 112);
        matchedIs("EG20G10S10S40" + THREE, 2, 121);
        matchedIs("EG20S40S10" + THREE, 1, 101);
        matchedIs("EG20S10S40S40S40" + THREE, 1, 10001);
        due.under("MATCHED: who can not is not matched");
        matchedIs("EG10G10S40S10" + THREE, 1, 101);
        matchedIs("EG10G10G10S10S40S10" + THREE, 2, 1102);
        due.under("MATCHED: what runs, is left or is SAID does not count");
        LoveGlass x = Made.left(0, Made.turned(PORT, 0, 0, 2, 1, 0));
        due.due("matched(false)", x.matched(false), 4);
        due.due("matched(true)", x.matched(true), 12134);
    }

    private static void judgeBad() {
        LoveGlass x = Made.turned(PORT, 0, 0);
        due.under("judge: BAD: n (1 .. 4)");
        due.due("judge(0, 0)", x.judge(0, 0), -2);
        due.due("judge(1, 40)", x.judge(1, 40), -9);
        due.due("judge(4, 40404040)", x.judge(4, 40404040), -9);
        due.due("judge(5, 40404040)", x.judge(5, 40404040), -2);
        due.due("judge(5, 0)", x.judge(5, 0), -2);
        due.due("judge(MAX, 0)", x.judge(Integer.MAX_VALUE, 0), -2);
        for (int n : NO_NUMBERS) {
            due.due("judge(" + n + ", 40)", x.judge(n, 40), -2);
            due.due("judge(" + n + ", 0)", x.judge(n, 0), -2);
        }
        due.under("judge: BAD: row (0 or more)");
        due.due("judge(1, 0)", x.judge(1, 0), -9);
        for (int row : NO_NUMBERS) {
            for (int n = 1; n <= 4; n++) {
                due.due("judge(" + n + ", " + row + ")", x.judge(n, row), -2);
            }
        }
        due.under("judge: BAD: row (2 n figures at most)");
        due.due("judge(1, 99)", x.judge(1, 99), 0);
        due.due("judge(1, 100)", x.judge(1, 100), -2);
        due.due("judge(2, 100)", x.judge(2, 100), -9);
        due.due("judge(2, 9999)", x.judge(2, 9999), 0);
        due.due("judge(2, 10000)", x.judge(2, 10000), -2);
        due.due("judge(3, 10000)", x.judge(3, 10000), 2);
        due.due("judge(3, 999999)", x.judge(3, 999999), 0);
        due.due("judge(3, 1000000)", x.judge(3, 1000000), -2);
        due.due("judge(4, 1000000)", x.judge(4, 1000000), 2);
        due.due("judge(4, 99999999)", x.judge(4, 99999999), 0);
        due.due("judge(4, 100000000)", x.judge(4, 100000000), -2);
        due.due("judge(4, MAX)", x.judge(4, Integer.MAX_VALUE), -2);
        due.under("judge: BAD, no GLASS runs");
        due.due("judge(0, 0)", Made.port(PORT).judge(0, 0), -2);
        due.due("judge(5, -1)", Made.port(PORT).judge(5, -1), -2);
        due.due("judge(1, 100)", new LoveGlass().judge(1, 100), -2);
    }

    private static void judgePlace() {
        due.under("JUDGED: the place (from 0) of the first that can not be; NONE: none");
        LoveGlass x = Made.turned(PORT, 0, 0);
        due.due("place 0", x.judge(4, 50404040), 0);
        due.due("place 1", x.judge(4, 40504040), 1);
        due.due("place 2", x.judge(4, 40405040), 2);
        due.due("place 3", x.judge(4, 40404050), 3);
        due.due("none", x.judge(4, 40404040), -9);
        due.due("the first of two", x.judge(4, 40504050), 1);
        due.due("the first of all", x.judge(4, 99999999), 0);
        due.under("JUDGED: told as two figures each, the first doing's the highest of row");
        due.due("fewer figures: SAYING 0 is SAID first", x.judge(2, 41), -9);
        due.due("and twice", x.judge(2, 0), 1);
        due.due("and by 4 doings", x.judge(4, 1), 1);
        due.due("as it stands", x.judge(4, 102), 1);
        due.due("name, vow, ask, so", x.judge(4, 10230), -9);
        due.under("JUDGED: what is ahead of it being done");
        due.due("drawn to 2, NAME of 2", x.judge(3, 292900), -9);
        due.due("drawn to 1, NAME of 2", Made.left(19, Made.turned(PORT, 0, 0)).judge(3, 292900), 2);
        due.due("what can not be is not looked behind", x.judge(3, 504000), 0);
    }

    private static void judgeDoings() {
        due.under("JUDGED: 0 and a SAYING: SAID");
        LoveGlass x = Made.turned(PORT, 0, 0);
        due.due("the first SAYING", x.judge(1, 0), -9);
        due.due("the last SAYING", x.judge(1, 4), -9);
        due.due("there is no such SAYING", x.judge(1, 5), 0);
        due.due("the last figure", x.judge(1, 9), 0);
        due.due("it is SAID already", Made.turned(PORT, 0, 0, 0).judge(1, 0), 0);
        due.due("4 of 4", Made.left(4, Made.turned(PORT, 0, 0)).judge(1, 3), -9);
        due.due("4 of 3", Made.left(3, Made.turned(PORT, 0, 0)).judge(1, 3), 0);
        due.due("no GLASS runs", Made.port(PORT).judge(1, 0), 0);
        due.under("JUDGED: 1 and 0: PAUSED");
        due.due("10", x.judge(1, 10), -9);
        due.due("1 left", Made.left(1, Made.turned(PORT, 0, 0)).judge(2, 1010), 1);
        due.due("none left", Made.left(0, Made.turned(PORT, 0, 0)).judge(1, 10), 0);
        due.due("none left in HERS", Made.left(0, Made.turned(PORT, 3, 0)).judge(4, 10101010), -9);
        due.due("no GLASS runs", Made.port(PORT).judge(1, 10), 0);
        for (int figure = 1; figure <= 9; figure++) {
            due.due("1" + figure, x.judge(1, 10 + figure), 0);
        }
        due.under("JUDGED: 2 and n (1 .. 9): DRAWN");
        due.due("20", x.judge(1, 20), 0);
        for (int n = 1; n <= 9; n++) {
            due.due("2" + n, x.judge(1, 20 + n), -9);
        }
        due.due("9 of 1", Made.left(1, Made.turned(PORT, 0, 0)).judge(1, 29), -9);
        due.due("none left", Made.left(0, Made.turned(PORT, 0, 0)).judge(1, 21), 0);
        due.due("9 of 1, and 1 of none", Made.left(1, Made.turned(PORT, 0, 0)).judge(2, 2921), 1);
        due.due("no GLASS runs", Made.port(PORT).judge(1, 21), 0);
        due.under("JUDGED: 3 and 0: it is a DECLARATION");
        due.due("nothing is SAID", x.judge(1, 30), 0);
        due.due("NAME and VOW are SAID", Made.turned(PORT, 0, 0, 0, 1).judge(1, 30), 0);
        due.due("all three are", Made.turned(PORT, 0, 0, 0, 1, 2).judge(1, 30), -9);
        due.due("no GLASS runs", Made.port(PORT).judge(1, 30), 0);
        for (int figure = 1; figure <= 9; figure++) {
            due.due("3" + figure, Made.turned(PORT, 0, 0, 0, 1, 2).judge(1, 30 + figure), 0);
        }
        due.under("JUDGED: 4 and v: WARMTH is v or more");
        for (int v = 0; v <= 9; v++) {
            due.due("WARMTH 7, 4" + v, Made.turned(PORT, 0, 0, 0, 1).judge(1, 40 + v), v <= 7 ? -9 : 0);
            due.due("WARMTH 9, 4" + v, Made.turned(PORT, 0, 0, 4).judge(1, 40 + v), -9);
            due.due("no GLASS runs, 4" + v, Made.port(PORT).judge(1, 40 + v), v == 0 ? -9 : 0);
        }
        due.under("JUDGED: what is no doing can not be");
        for (int doing = 50; doing <= 99; doing++) {
            due.due("judge(1, " + doing + ")", Made.turned(PORT, 0, 0, 0, 1, 2).judge(1, doing), 0);
        }
    }

    private static void shareIs(String where, LoveGlass x, int saying, int above, int below) {
        due.due(where + ": share(" + saying + ", true)", x.share(saying, true), above);
        due.due(where + ": share(" + saying + ", false)", x.share(saying, false), below);
    }

    private static void shareRefused() {
        due.under("share: UNKNOWN");
        LoveGlass x = Made.turned("EG90S10" + THREE, 0, 0);
        shareIs("-1", x, -1, -1, -1);
        shareIs("the first", x, 0, 1, 1);
        shareIs("the last", x, 2, 1, 1);
        shareIs("one behind it", x, 3, -1, -1);
        for (int saying : NO_NUMBERS) {
            due.due("share(" + saying + ", true)", x.share(saying, true), -1);
        }
        due.due("share(MAX, false)", x.share(Integer.MAX_VALUE, false), -1);
        due.due("share(5, true) of six", Made.turned("EG90S10" + THREE + THREE, 0, 0).share(5, true), 1);
        due.due("share(6, true) of six", Made.turned("EG90S10" + THREE + THREE, 0, 0).share(6, true), -1);
        due.under("share: LATE: no GLASS runs");
        shareIs("none was turned", Made.port(PORT), 0, -3, -3);
        shareIs("it was undone", undone(Made.turned(PORT, 0, 0)), 0, -3, -3);
        due.under("share: UNKNOWN is told ahead of LATE");
        shareIs("no GLASS runs", Made.port(PORT), 5, -1, -1);
        shareIs("no GLASS runs", Made.port(PORT), -1, -1, -1);
        shareIs("a new object", new LoveGlass(), 0, -1, -1);
    }

    private static void shares() {
        due.under("SHARE: a FRACTION in least terms");
        // What one of three alone makes whole: all WARMTH by 3.
        shareIs("1 by 3", Made.turned("EG90S10Y111Y102Y103", 0, 0), 0, 1, 3);
        shareIs("3 by 3", Made.turned("EG90S10Y111Y112Y113", 0, 0), 1, 1, 1);
        shareIs("4 by 3", Made.turned("EG90S10Y121Y112Y113", 0, 0), 2, 4, 3);
        shareIs("27 by 3", Made.turned("EG90S10Y191Y192Y193", 0, 0), 0, 9, 1);
        // A FILLER counts if it comes as the last of four, or is there when the last of the three comes.
        shareIs("a FILLER: 9 by 4", Made.turned("EG90S10Y191Y192Y193Y190", 0, 0), 3, 9, 4);
        due.under("SHARE: (0: there is none): 0 by 1");
        shareIs("one SAYING", Made.turned("EG90S10Y191", 0, 0), 0, 0, 1);
        shareIs("no ASK", Made.turned("EG90S10Y191Y192Y190", 0, 0), 1, 0, 1);
        shareIs("too few GRAINS", Made.turned("EG10S40" + THREE, 0, 0), 0, 0, 1);
        shareIs("all of WARMTH 0", Made.turned("EG90S10Y101Y102Y103", 0, 0), 0, 0, 1);
        due.under("SHARE: if SAYINGS come one by one: GRAINS of the GLASS are for all of them");
        // Of 10 GRAINS the FILLER of 8 is too much behind the three, that of 7 is not.
        shareIs("10 of 10", Made.turned("EG10S10" + THREE + "Y790", 0, 0), 3, 9, 4);
        shareIs("11 of 10", Made.turned("EG10S10" + THREE + "Y890", 0, 0), 3, 0, 1);
        shareIs("11 of 10, the FILLER told first", Made.turned("EG10S10Y890" + THREE, 0, 0), 0, 0, 1);
        shareIs("11 of 10, the FILLER told first, of the three", Made.turned("EG10S10Y890" + THREE, 0, 0), 1, 1, 1);
        shareIs("11 of 10, of the three", Made.turned("EG10S10" + THREE + "Y890", 0, 0), 1, 1, 1);
        // Both FILLERS do not fit: that of WARMTH 5 makes 5 more as the fourth, ahead of the other (1 / 20 of the orders),
        // and 5 - 2 more as the fifth (1 / 5 of them).
        shareIs("of two FILLERS one", Made.turned("EG10S10" + THREE + "Y450Y420", 0, 0), 3, 17, 20);
        due.under("SHARE: the GLASS that runs being TURNED anew");
        shareIs("nothing left, all SAID", Made.left(0, Made.turned("EG90S10" + THREE, 0, 0, 2, 1, 0)), 0, 1, 1);
        shareIs("a STAMMERER's first, of 10", Made.left(1, Made.turned("EG10S12Y411Y112Y113", 0, 0, 1)), 0, 1, 1);
        shareIs("by the SUITOR for whom it runs", Made.turned("EG10S10S40" + THREE, 0, 1), 0, 0, 1);
        shareIs("by the GLASS that runs", Made.turned("EG90G10S40" + THREE, 1, 0), 0, 0, 1);
        due.under("SHARE: nothing is left of what was asked before");
        LoveGlass x = Made.turned("EG90G10S40Y191Y192Y193", 0, 0);
        shareIs("the larger GLASS", x, 0, 9, 1);
        Made.could(x.turn(1, 0), "turn");
        shareIs("the smaller one", x, 0, 0, 1);
        Made.could(x.turn(0, 0), "turn");
        shareIs("the larger one again", x, 0, 9, 1);
        Made.anew(x, "EG90S10" + THREE);
        Made.could(x.turn(0, 0), "turn");
        shareIs("another PORT", x, 0, 1, 1);
        due.under("SHARE: in each order as likely");
        for (int saying = 0; saying < 6; saying++) {
            shareIs("six, of which none is more than another", Made.turned("EG90S10" + THREE + THREE, 0, 0), saying, 1, 1);
        }
        String five = "EG90S10Y101Y101Y102Y103Y160";
        // The FILLER makes 6 more behind VOW, ASK and a NAME or the other: 1 / 4 + 1 / 4 - 1 / 5 of the orders.
        shareIs("the FILLER", Made.turned(five, 0, 0), 4, 9, 5);
        shareIs("the VOW", Made.turned(five, 0, 0), 2, 9, 5);
        // A NAME does as the fourth of five alone, the other NAME behind it: 1 / 20 of the orders.
        shareIs("a NAME", Made.turned(five, 0, 0), 0, 3, 10);
        shareIs("the other NAME", Made.turned(five, 0, 0), 1, 3, 10);
    }

    private static void nothingChanges() {
        due.under("In what follows nothing is changed");
        LoveGlass x = Made.turned(PORT, 0, 0, 3, 0);
        for (int i = 0; i < 4; i++) {
            x.warmest(i % 2 == 0);
            x.shortest(i % 2 == 0);
            x.can(i);
            x.does(i);
            x.matched(i % 2 == 0);
            x.judge(2, 102 + 1908 * i);
            x.share(i, i % 2 == 0);
        }
        due.due("what later calls show", Later.shows(x), Later.shows(Made.turned(PORT, 0, 0, 3, 0)));
        x = Made.port(PORT);
        x.warmest(true);
        x.shortest(true);
        x.can(2);
        x.does(2);
        x.matched(true);
        x.judge(1, 0);
        x.share(0, true);
        due.due("what later calls show, no GLASS runs", Later.shows(x), Later.shows(Made.port(PORT)));
    }

    public static void main(String[] args) {
        warmestNone();
        warmestCan();
        warmestLike();
        shortestNone();
        shortestLike();
        canIn();
        doesIn();
        matches();
        judgeBad();
        judgePlace();
        judgeDoings();
        shareRefused();
        shares();
        nothingChanges();
        due.end();
    }
}
