/** Promises 1 to 11: the port. */
public final class PortTest {
    /** The longest port that there is: 49 bytes. */
    private static final String LONGEST = "EG10G10G10G10S10S10S10S10Y100Y100Y100Y100Y100Y100";
    private static final String PORT = "EG20G11G32G13S10S31S22S13Y231Y142Y153Y570Y390";
    private static final Due due = new Due();

    private static void promise1() {
        LoveGlass x = new LoveGlass();
        int[] all = {0, 0, 0, -9, -9, 0, 0, 0, 0, 0, 0, 0, 0};
        for (int what = 0; what < all.length; what++) {
            due.due("new: about(" + what + ")", x.about(what), all[what]);
        }
        due.due("new: fault()", x.fault(), 0);
        due.due("new: glass(0, 0)", x.glass(0, 0), -1);
        due.due("new: suitor(0, 0)", x.suitor(0, 0), -1);
        due.due("new: saying(0, 0)", x.saying(0, 0), -1);
        due.due("new: seed(0)", x.seed(0), 0);
        due.due("new: again(0)", x.again(0), -3);
        due.due("new: undo()", x.undo(), -3);
        due.due("UNKNOWN", LoveGlass.UNKNOWN, -1);
        due.due("BAD", LoveGlass.BAD, -2);
        due.due("LATE", LoveGlass.LATE, -3);
        due.due("FULL", LoveGlass.FULL, -4);
        due.due("NONE", LoveGlass.NONE, -9);
    }

    private static void promise2() {
        LoveGlass x = new LoveGlass();
        due.due("write(-1)", x.write(-1), -2);
        due.due("write(256)", x.write(256), -2);
        due.due("write(MIN)", x.write(Integer.MIN_VALUE), -2);
        due.due("write(MAX)", x.write(Integer.MAX_VALUE), -2);
        due.due("no byte came", x.about(12), 0);
        due.due("write(0)", x.write(0), 1);
        due.due("write(255)", x.write(255), 2);
        for (int i = 3; i <= 56; i++) {
            due.due("write, the " + i + "-th", x.write('E'), i);
        }
        due.due("the 57th", x.write('E'), -4);
        due.due("the 57th, BAD first", x.write(256), -2);
        due.due("still 56", x.about(12), 56);
    }

    private static void promise3() {
        LoveGlass x = Due.told("EG10");
        due.due("wipe()", x.wipe(), 4);
        due.due("wipe() again", x.wipe(), 0);
        due.due("bytes", x.about(12), 0);
        due.due("write behind wipe", x.write('E'), 1);
        due.due("E alone is a port", x.fault(), -9);
        x = Due.port(PORT);
        x.turn(0, 0);
        x.wipe();
        due.due("the port stays", x.about(0), 4);
        due.due("the glass runs on", x.about(5), 20);
    }

    private static void promise4() {
        String[] texts = {"", "E", "X", "e", "EG", "EG1", "EG10", "EG0", "EG:", "EG/", "EG9", "EG14", "EG1/", "EG93", "ES", "ES0",
            "ES5", "ES43", "ES44", "ES4", "EY", "EY0", "EY1", "EY10", "EY100", "EY993", "EY994", "EY1:", "EY:", "EY1A0", "EE", "EA", "E1",
            "EG10X", "EG10E", "EG10G", "Eg10", "EY100S10G10", "EG1 0", "G10", LONGEST, LONGEST + "G", LONGEST + "S",
            LONGEST + "Y", LONGEST + "E", "EG10G10G10G10G10", "ES10S10S10S10S", "EY100Y100Y100Y100Y100Y100Y100",
            "EG10G10G10G10S", "EXG0", "\u00c5"};
        int[] faults = {0, -9, 0, 0, 2, 3, -9, 2, 2, 2, 3, 3, 3, -9, 2, 2,
            2, -9, 3, 3, 2, 2, 3, 4, -9, -9, 4, 3, 2, 3, 1, 1, 1,
            4, 4, 5, 1, -9, 3, 0, -9, 49, 49,
            49, 49, 13, 13, 25,
            14, 1, 0};
        due.due("as many faults as texts", faults.length, texts.length);
        for (int i = 0; i < texts.length; i++) {
            LoveGlass x = Due.told(texts[i]);
            due.due("fault() of " + texts[i], x.fault(), faults[i]);
            due.due("port() of " + texts[i], x.port() == -3 ? 1 : 0, faults[i] == -9 ? 0 : 1);
        }
        LoveGlass x = Due.port(PORT);
        x.turn(0, 0);
        x.say(0);
        Due.tell(x, "EG4");
        String was = Due.seen(x);
        x.fault();
        due.due("fault() changes nothing", Due.seen(x), was);
        due.due("fault() leaves the port", x.glass(0, 0), 2);
    }

    private static void promise5() {
        LoveGlass x = Due.told(PORT);
        due.due("port()", x.port(), 445);
        due.due("the text stays", x.about(12), PORT.length());
        due.due("the longest", Due.told(LONGEST).port(), 446);
        due.due("E", Due.told("E").port(), 0);
        due.due("mixed", Due.told("EY100S10G10Y211").port(), 112);
        x.time(0, 0, 1, 2);
        x.seed(77);
        x.turn(0, 0);
        x.say(1);
        x.keep(0);
        x.keep(1);
        x.write('X');
        String was = Due.seen(x);
        due.due("port() with a fault", x.port(), -3);
        due.due("port() that is refused changes nothing", Due.seen(x), was);
        due.due("what was kept is there", x.again(1), 19);
        x.turn(0, 0);
        x.say(2);
        Due.tell(x, "EY211S13G12");
        due.due("port() anew", x.port(), 111);
        int[] all = {1, 1, 1, -9, -9, 0, 0, 0, 0, 0, 0, 1, 11};
        for (int what = 0; what < all.length; what++) {
            due.due("anew: about(" + what + ")", x.about(what), all[what]);
        }
        due.due("no act", x.undo(), -3);
        due.due("kept 0 is gone", x.again(0), -3);
        due.due("kept 1 is gone", x.again(1), -3);
        due.due("the seed stays", x.seed(0), 77);
        due.due("what is timed stays", x.untime(), 1);
        due.due("anew: glass(0, 2)", x.glass(0, 2), 15);
        due.due("anew: glass(1, 2)", x.glass(1, 2), -1);
        due.due("the same once more", x.port(), 111);
        anew(x);
    }

    /** Port upon port in one object: nothing of an earlier one is left. */
    private static void anew(LoveGlass x) {
        for (int k = 0; k < 4; k++) {
            Due.tell(x, "EG" + (k + 1) + k + "S" + (4 - k) + (3 - k) + "Y" + (9 - k) + (k + 5) + k);
            due.due("port " + k, x.port(), 111);
            due.due("its sand", x.glass(0, 0), k + 1);
            due.due("its glass's kind", x.glass(0, 1), k);
            due.due("its pace", x.suitor(0, 0), 4 - k);
            due.due("its suitor's kind", x.suitor(0, 1), 3 - k);
            due.due("its letters", x.saying(0, 0), 9 - k);
            due.due("its warmth", x.saying(0, 1), k + 5);
            due.due("its sort", x.saying(0, 2), k);
        }
    }

    private static void promise6() {
        LoveGlass x = Due.port(PORT);
        x.time(0, 0, 1, 2);
        x.turn(2, 0);
        x.say(3);
        x.say(0);
        int[] all = {4, 4, 5, 2, 0, 38, 2, 9, 10, 0, 3, 1, 45};
        for (int what = 0; what < all.length; what++) {
            due.due("about(" + what + ")", x.about(what), all[what]);
        }
        x.say(1);
        due.due("no ask yet", x.about(9), 0);
        x.say(2);
        due.due("a declaration", x.about(9), 1);
        x.say(4);
        due.due("others behind", x.about(9), 1);
        due.due("warmth of all", x.about(8), 28);
        due.due("all bits", x.about(7), 31);
        due.due("about(-1)", x.about(-1), -2);
        due.due("about(13)", x.about(13), -2);
        due.due("about(MIN)", x.about(Integer.MIN_VALUE), -2);
        due.due("about(MAX)", x.about(Integer.MAX_VALUE), -2);
        int[][] rows = {{0, 2, 1}, {1, 0, 2}, {2, 1, 0}, {1, 2, 0}, {2, 0, 1}};
        for (int[] row : rows) {
            x.turn(0, 0);
            for (int saying : row) {
                x.say(saying);
            }
            due.due("out of order", x.about(9), 0);
        }
        x = Due.port("EG90S10Y112Y111Y113Y112Y113");
        x.turn(0, 0);
        for (int saying = 0; saying < 4; saying++) {
            x.say(saying);
            due.due("an ask ahead of the vow", x.about(9), 0);
        }
        x.say(4);
        due.due("others wherever they are", x.about(9), 1);
    }

    private static void promise7() {
        LoveGlass x = Due.port(PORT);
        int[][] all = {{2, 0, 20}, {1, 1, 10}, {3, 2, 45}, {1, 3, 10}};
        for (int glass = 0; glass < 4; glass++) {
            for (int what = 0; what < 3; what++) {
                due.due("glass(" + glass + ", " + what + ")", x.glass(glass, what), all[glass][what]);
            }
        }
        due.due("glass(-1, 0)", x.glass(-1, 0), -1);
        due.due("glass(4, 9)", x.glass(4, 9), -1);
        due.due("glass(0, 3)", x.glass(0, 3), -2);
        due.due("glass(0, -1)", x.glass(0, -1), -2);
        due.due("a red one of 9", Due.port("EG92").glass(0, 2), 135);
        due.due("a red one of 1", Due.port("EG12").glass(0, 2), 15);
    }

    private static void promise8() {
        LoveGlass x = Due.port(PORT);
        int[][] all = {{1, 0}, {3, 1}, {2, 2}, {1, 3}};
        for (int suitor = 0; suitor < 4; suitor++) {
            for (int what = 0; what < 2; what++) {
                due.due("suitor(" + suitor + ", " + what + ")", x.suitor(suitor, what), all[suitor][what]);
            }
        }
        due.due("suitor(-1, 0)", x.suitor(-1, 0), -1);
        due.due("suitor(4, 9)", x.suitor(4, 9), -1);
        due.due("suitor(0, 2)", x.suitor(0, 2), -2);
        due.due("suitor(0, -1)", x.suitor(0, -1), -2);
    }

    private static void promise9() {
        LoveGlass x = Due.port(PORT);
        int[][] all = {{2, 3, 1}, {1, 4, 2}, {1, 5, 3}, {5, 7, 0}, {3, 9, 0}};
        for (int saying = 0; saying < 5; saying++) {
            for (int what = 0; what < 3; what++) {
                due.due("saying(" + saying + ", " + what + ")", x.saying(saying, what), all[saying][what]);
            }
        }
        due.due("no glass runs", x.saying(0, 3), -9);
        x.turn(1, 2);
        due.due("the stammerer's first, cracked", x.saying(0, 3), 10);
        due.due("more than is left is told too", x.saying(3, 3), 22);
        x.turn(2, 3);
        x.say(0);
        due.due("said", x.saying(0, 3), -9);
        due.due("the fisherman's second", x.saying(1, 3), 2);
        due.due("saying(-1, 0)", x.saying(-1, 0), -1);
        due.due("saying(5, 9)", x.saying(5, 9), -1);
        due.due("saying(0, 4)", x.saying(0, 4), -2);
        due.due("saying(0, -1)", x.saying(0, -1), -2);
    }

    private static void promise10() {
        LoveGlass x = Due.port(PORT);
        due.due("nothing is said", x.said(0), -1);
        x.turn(2, 0);
        x.say(4);
        x.say(0);
        x.say(2);
        due.due("said(0)", x.said(0), 4);
        due.due("said(1)", x.said(1), 0);
        due.due("said(2)", x.said(2), 2);
        due.due("said(3)", x.said(3), -1);
        due.due("said(-1)", x.said(-1), -1);
        due.due("said(MAX)", x.said(Integer.MAX_VALUE), -1);
        x.turn(2, 0);
        due.due("turned anew", x.said(0), -1);
        x = Due.port("EG90S10Y100Y100Y100Y100Y100Y100");
        x.turn(0, 0);
        for (int saying = 5; saying >= 0; saying--) {
            x.say(saying);
        }
        due.due("six: said(5)", x.said(5), 0);
        due.due("six: said(6)", x.said(6), -1);
    }

    private static void promise11() {
        LoveGlass x = Due.port(PORT);
        // saying, suitor, glass, place, what it takes
        int[][] all = {{3, 0, 0, 0, 5}, {3, 0, 0, 5, 5}, {3, 0, 1, 0, 7}, {3, 0, 2, 0, 5}, {3, 0, 3, 0, 5},
            {3, 1, 0, 0, 7}, {3, 1, 1, 3, 9}, {4, 1, 0, 0, 4}, {0, 1, 0, 0, 6}, {1, 1, 0, 0, 3}, {2, 1, 0, 1, 3},
            {0, 2, 0, 0, 8}, {0, 2, 0, 1, 4}, {0, 2, 1, 0, 10}, {3, 2, 0, 0, 20}, {3, 2, 1, 5, 12},
            {0, 3, 0, 0, 2}, {0, 3, 0, 5, 7}, {0, 3, 1, 5, 9}, {3, 3, 2, 3, 8}};
        for (int[] t : all) {
            due.due("takes(" + t[0] + ", " + t[1] + ", " + t[2] + ", " + t[3] + ")", x.takes(t[0], t[1], t[2], t[3]), t[4]);
        }
        due.due("no such saying", x.takes(5, 0, 0, 9), -1);
        due.due("no such suitor", x.takes(0, 4, 0, 9), -1);
        due.due("no such glass", x.takes(0, 0, 4, 9), -1);
        due.due("less than 0: saying", x.takes(-1, 0, 0, 0), -1);
        due.due("less than 0: suitor", x.takes(0, -1, 0, 0), -1);
        due.due("less than 0: glass", x.takes(0, 0, -1, 0), -1);
        due.due("place 6", x.takes(0, 0, 0, 6), -2);
        due.due("place -1", x.takes(0, 0, 0, -1), -2);
        x = Due.port("EG10S11S41Y100Y190Y993");
        due.due("half of 1, cut", x.takes(0, 0, 0, 0), 0);
        due.due("a poet's ask is whole", x.takes(2, 1, 0, 0), 36);
    }

    public static void main(String[] args) {
        promise1();
        promise2();
        promise3();
        promise4();
        promise5();
        promise6();
        promise7();
        promise8();
        promise9();
        promise10();
        promise11();
        due.end();
    }
}
