/** Each sentence on a boundary case of the ACTS: TURNED, SAID, PAUSED, DRAWN, undone, promises 12 to 16. */
public final class BoundsActsTest {
    private static final int[] NO_NUMBERS = {Integer.MIN_VALUE, Integer.MIN_VALUE + 1, -256, -9, -2, -1};
    private static final String PORT = "EG20G11G32G13S10S31S22S13Y231Y142Y153Y570Y390";
    private static final Due due = new Due();

    private static void turnUnknown() {
        due.under("turn: UNKNOWN: glass, suitor");
        LoveGlass x = Made.port("EG20G31S10S20S30");
        due.due("turn(-1, 0)", x.turn(-1, 0), -1);
        due.due("turn(2, 0)", x.turn(2, 0), -1);
        due.due("turn(0, -1)", x.turn(0, -1), -1);
        due.due("turn(0, 3)", x.turn(0, 3), -1);
        for (int none : NO_NUMBERS) {
            due.due("turn(" + none + ", 0)", x.turn(none, 0), -1);
            due.due("turn(0, " + none + ")", x.turn(0, none), -1);
        }
        due.due("turn(MAX, 0)", x.turn(Integer.MAX_VALUE, 0), -1);
        due.due("turn(0, MAX)", x.turn(0, Integer.MAX_VALUE), -1);
        due.due("no ACT", x.about(10), 0);
        due.due("turn(0, 0)", x.turn(0, 0), 20);
        due.due("turn(1, 2)", x.turn(1, 2), 30);
        due.due("glasses and no suitors", Made.port("EG20").turn(0, 0), -1);
        due.due("suitors and no glasses", Made.port("ES10").turn(0, 0), -1);
        LoveGlass four = Made.port(PORT);
        due.due("turn(3, 3)", four.turn(3, 3), 10);
        due.due("turn(4, 3)", four.turn(4, 3), -1);
        due.due("turn(3, 4)", four.turn(3, 4), -1);
    }

    private static void turned() {
        due.under("TURNED: a GLASS runs for a SUITOR, with all its GRAINS");
        LoveGlass x = Made.left(0, Made.turned(PORT, 0, 0));
        due.due("the same one anew", x.turn(0, 0), 20);
        due.due("about(5)", x.about(5), 20);
        due.due("a RED one", x.turn(2, 0), 45);
        due.under("TURNED: nothing is SAID");
        x = Made.turned(PORT, 0, 0, 0, 1, 2);
        Made.could(x.turn(0, 0), "turn");
        due.due("how many", x.about(6), 0);
        due.due("said(0)", x.said(0), -1);
        due.due("WARMTH", x.about(8), 0);
        due.due("a DECLARATION", x.about(9), 0);
    }

    private static void sayUnknown() {
        due.under("say: UNKNOWN");
        LoveGlass x = Made.turned("EG20S10Y231Y142", 0, 0);
        due.due("say(-1)", x.say(-1), -1);
        due.due("say(2)", x.say(2), -1);
        for (int none : NO_NUMBERS) {
            due.due("say(" + none + ")", x.say(none), -1);
        }
        due.due("say(MAX)", x.say(Integer.MAX_VALUE), -1);
        due.due("no ACT", x.about(10), 1);
        due.due("say(1)", x.say(1), 19);
        due.due("say(0)", x.say(0), 17);
        due.under("say: UNKNOWN is told ahead of LATE");
        x = Made.port("EG20S10Y231Y142");
        due.due("say(2), no GLASS runs", x.say(2), -1);
        due.due("say(-1), no GLASS runs", x.say(-1), -1);
        x = Made.left(0, Made.turned("EG20S10Y231Y142", 0, 0));
        due.due("say(2), nothing is left", x.say(2), -1);
    }

    private static void sayLate() {
        due.under("say: LATE: no GLASS runs");
        LoveGlass x = Made.port(PORT);
        due.due("none was turned", x.say(0), -3);
        due.due("no ACT", x.about(10), 0);
        due.under("say: LATE: it is SAID");
        x = Made.turned(PORT, 0, 0, 0, 1);
        due.due("the last one", x.say(1), -3);
        due.due("the one ahead of it", x.say(0), -3);
        due.due("GRAINS", x.about(5), 17);
        due.due("how many", x.about(6), 2);
        due.under("SAID: a SAYING that is not SAID since");
        Made.could(x.undo(), "undo");
        due.due("it was undone", x.say(1), 17);
        Made.could(x.turn(0, 0), "turn");
        due.due("the GLASS was TURNED anew", x.say(1), 19);
    }

    private static void sayMore() {
        due.under("SAID: TAKES no more GRAINS than are left: so many fewer are left; say: LATE: it TAKES more");
        due.due("5 of 6", Made.left(6, Made.turned(PORT, 0, 0)).say(3), 1);
        due.due("5 of 5", Made.left(5, Made.turned(PORT, 0, 0)).say(3), 0);
        due.due("5 of 4", Made.left(4, Made.turned(PORT, 0, 0)).say(3), -3);
        due.due("5 of 0", Made.left(0, Made.turned(PORT, 0, 0)).say(3), -3);
        due.due("a CRACKED one: 7 of 7", Made.left(7, Made.turned(PORT, 1, 0)).say(3), 0);
        due.due("a CRACKED one: 7 of 6", Made.left(6, Made.turned(PORT, 1, 0)).say(3), -3);
        due.due("a STAMMERER's first: 20 of 20", Made.turned(PORT, 0, 2).say(3), 0);
        due.due("a STAMMERER's first: 20 of 19", Made.left(19, Made.turned(PORT, 0, 2)).say(3), -3);
        due.due("a STAMMERER's second: 10 of 10", Made.left(10, Made.turned(PORT, 0, 2, 1)).say(3), 0);
        due.due("a FISHERMAN's third: 7 of 7", Made.left(7, Made.turned(PORT, 0, 3, 1, 0)).say(3), 0);
        due.due("a FISHERMAN's third: 7 of 6", Made.left(6, Made.turned(PORT, 0, 3, 1, 0)).say(3), -3);
        due.under("SAID: what TAKES nothing can be SAID when nothing is left");
        LoveGlass x = Made.left(0, Made.turned("EG10S11Y190Y290", 0, 0));
        due.due("0 of 0", x.say(0), 0);
        due.due("1 of 0", x.say(1), -3);
        due.due("how many", x.about(6), 1);
        due.under("SAID: six at most, all that there are");
        x = Made.turned("EG90S10Y101Y102Y103Y100Y100Y100", 0, 0, 5, 4, 3, 2, 1, 0);
        due.due("how many", x.about(6), 6);
        for (int saying = 0; saying < 6; saying++) {
            due.due("say(" + saying + ")", x.say(saying), -3);
        }
        due.due("GRAINS", x.about(5), 84);
    }

    private static void pauses() {
        due.under("pause: LATE: no GLASS runs");
        LoveGlass x = Made.port(PORT);
        due.due("none was turned", x.pause(), -3);
        due.due("of a new object", new LoveGlass().pause(), -3);
        due.due("one was, that is undone", undone(Made.turned(PORT, 3, 0)).pause(), -3);
        due.under("A PAUSE takes 1 GRAIN; PAUSED: if so many GRAINS are left");
        x = Made.left(2, Made.turned(PORT, 0, 0));
        due.due("of 2", x.pause(), 1);
        due.due("of 1", x.pause(), 0);
        due.under("pause: LATE: there is none left (and it takes one)");
        due.due("PLAIN", x.pause(), -3);
        due.due("CRACKED", Made.left(0, Made.turned(PORT, 1, 0)).pause(), -3);
        due.due("RED", Made.left(0, Made.turned(PORT, 2, 0)).pause(), -3);
        due.under("A PAUSE takes 1 GRAIN in each GLASS but HERS");
        due.due("CRACKED", Made.turned(PORT, 1, 0).pause(), 9);
        due.due("RED", Made.turned(PORT, 2, 0).pause(), 44);
        due.under("A PAUSE takes none in HERS");
        due.due("of 10", Made.turned(PORT, 3, 0).pause(), 10);
        due.due("of 1", Made.left(1, Made.turned(PORT, 3, 0)).pause(), 1);
        due.due("of 0", Made.left(0, Made.turned(PORT, 3, 0)).pause(), 0);
        due.under("A PAUSE is no SAYING");
        x = Made.turned(PORT, 0, 2);
        Made.could(x.pause(), "pause");
        due.due("a STAMMERER's first behind it", x.saying(1, 3), 4);
        due.due("how many are SAID", x.about(6), 0);
        x = Made.turned(PORT, 0, 3, 0);
        Made.could(x.pause(), "pause");
        due.due("a FISHERMAN's second behind it", x.saying(1, 3), 2);
        due.due("what is SAID stays", x.said(0), 0);
    }

    private static LoveGlass undone(LoveGlass x) {
        Made.could(x.undo(), "undo");
        return x;
    }

    private static void draws() {
        due.under("draw: BAD: n (1 .. 9)");
        LoveGlass x = Made.turned(PORT, 2, 0);
        due.due("draw(0)", x.draw(0), -2);
        due.due("draw(10)", x.draw(10), -2);
        for (int n : NO_NUMBERS) {
            due.due("draw(" + n + ")", x.draw(n), -2);
        }
        due.due("draw(MAX)", x.draw(Integer.MAX_VALUE), -2);
        due.due("no ACT", x.about(10), 1);
        int left = 45;
        for (int n = 1; n <= 9; n++) {
            left = Math.max(0, left - n);
            due.due("draw(" + n + ")", x.draw(n), left);
        }
        due.under("DRAWN: n GRAINS fewer are left (0 at least)");
        due.due("9 of 10", Made.left(10, Made.turned(PORT, 0, 0)).draw(9), 1);
        due.due("9 of 9", Made.left(9, Made.turned(PORT, 0, 0)).draw(9), 0);
        due.due("9 of 8", Made.left(8, Made.turned(PORT, 0, 0)).draw(9), 0);
        due.due("9 of 1", Made.left(1, Made.turned(PORT, 0, 0)).draw(9), 0);
        due.due("1 of 1", Made.left(1, Made.turned(PORT, 0, 0)).draw(1), 0);
        due.under("draw: LATE: no GLASS runs");
        due.due("draw(1)", Made.port(PORT).draw(1), -3);
        due.due("draw(9)", Made.port(PORT).draw(9), -3);
        due.due("of a new object", new LoveGlass().draw(1), -3);
        due.under("draw: LATE: there is none left");
        for (int glass = 0; glass < 4; glass++) {
            x = Made.left(0, Made.turned(PORT, glass, 0));
            due.due("draw(1) of GLASS " + glass, x.draw(1), -3);
            due.due("draw(9) of GLASS " + glass, x.draw(9), -3);
        }
        due.under("draw: BAD is told ahead of LATE");
        due.due("draw(0), none left", x.draw(0), -2);
        due.due("draw(10), none left", x.draw(10), -2);
        due.due("draw(0), no GLASS runs", Made.port(PORT).draw(0), -2);
        due.due("draw(10), no GLASS runs", Made.port(PORT).draw(10), -2);
        due.under("DRAWN: what is SAID stays");
        x = Made.turned(PORT, 0, 0, 1, 0);
        Made.could(x.draw(9), "draw");
        due.due("said(0)", x.said(0), 1);
        due.due("said(1)", x.said(1), 0);
    }

    private static void undoes() {
        due.under("undo: LATE: there is none");
        due.due("of a new object", new LoveGlass().undo(), -3);
        LoveGlass x = Made.port(PORT);
        due.due("behind a port", x.undo(), -3);
        Made.could(x.turn(0, 0), "turn");
        due.due("one ACT", x.undo(), 0);
        due.due("no ACT any more", x.undo(), -3);
        due.under("undo: the first ACT is undone: no GLASS runs");
        due.due("about(3)", x.about(3), -9);
        due.due("about(4)", x.about(4), -9);
        due.due("about(5)", x.about(5), 0);
        due.under("undo: TURNED: what ran ahead of it runs, with what was left and SAID");
        x = Made.left(7, Made.turned(PORT, 2, 3, 1, 0));
        int acts = x.about(10);
        Made.could(x.turn(0, 1), "turn");
        due.due("undo()", x.undo(), acts);
        due.due("GLASS", x.about(3), 2);
        due.due("SUITOR", x.about(4), 3);
        due.due("GRAINS", x.about(5), 7);
        due.due("said(0)", x.said(0), 1);
        due.due("said(1)", x.said(1), 0);
        due.due("said(2)", x.said(2), -1);
        due.under("undo: SAID: it is not SAID, the GRAINS are there again");
        x = undone(Made.turned(PORT, 0, 2, 1));
        due.due("GRAINS", x.about(5), 20);
        due.due("how many", x.about(6), 0);
        due.under("undo: PAUSED, in HERS too: it is an ACT");
        x = Made.turned(PORT, 3, 0);
        Made.could(x.pause(), "pause");
        due.due("ACTS", x.about(10), 2);
        due.due("undo()", x.undo(), 1);
        due.due("GLASS", x.about(3), 3);
        due.under("undo: DRAWN: all GRAINS that were left are there again, though n was more");
        x = Made.left(3, Made.turned(PORT, 0, 0));
        Made.could(x.draw(9), "draw");
        due.due("GRAINS", undone(x).about(5), 3);
        due.under("undo: what is TIMED, kept, THE SEED and THE TEXT are no ACTS");
        x = Made.turned(PORT, 0, 0, 0);
        Made.could(x.time(0, 0, 1, 2), "time");
        Made.could(x.keep(0), "keep");
        Made.could(x.write('X'), "write");
        x.seed(6);
        due.due("ACTS", x.about(10), 2);
        due.due("undo()", x.undo(), 1);
        due.due("undo() again", x.undo(), 0);
        due.due("TIMED", x.about(11), 1);
        due.due("bytes", x.about(12), PORT.length() + 1);
        due.due("THE SEED", x.seed(0), 6);
        due.due("what was kept", x.again(0), 18);
        due.under("undo is no ACT itself");
        x = undone(undone(Made.turned(PORT, 0, 0, 0, 1)));
        due.due("ACTS", x.about(10), 1);
        due.due("undo()", x.undo(), 0);
        due.due("undo() once more", x.undo(), -3);
        due.under("what is refused is no ACT");
        x = Made.turned(PORT, 0, 0, 0);
        x.turn(4, 0);
        x.say(0);
        x.say(9);
        x.draw(0);
        x.draw(10);
        due.due("ACTS", x.about(10), 2);
        due.due("undo()", x.undo(), 1);
        due.due("the SAYING is undone", x.about(5), 20);
    }

    /** An object with a glass of 135 grains turned, and so many pauses behind it. */
    private static LoveGlass paused(int pauses) {
        LoveGlass x = Made.turned("EG92S10Y101", 0, 0);
        for (int i = 0; i < pauses; i++) {
            Made.could(x.pause(), "pause");
        }
        return x;
    }

    /** Undoes all: how many there were, what is left behind it. */
    private static void undoAll(String where, LoveGlass x, int acts, int glass, int left) {
        due.due(where + ": about(10)", x.about(10), acts);
        for (int i = acts - 1; i >= 0; i--) {
            due.due(where + ": undo, down to " + i, x.undo(), i);
        }
        due.due(where + ": no undo any more", x.undo(), -3);
        due.due(where + ": about(3)", x.about(3), glass);
        due.due(where + ": about(5)", x.about(5), left);
    }

    private static void actsAtMost() {
        due.under("ACTS are a row (14 at most)");
        undoAll("13 ACTS", paused(12), 13, -9, 0);
        undoAll("14 ACTS", paused(13), 14, -9, 0);
        due.under("ACTS: when it is full, the first one is forgotten");
        undoAll("15 ACTS", paused(14), 14, 0, 135);
        undoAll("16 ACTS", paused(15), 14, 0, 134);
        undoAll("28 ACTS", paused(27), 14, 0, 122);
        undoAll("29 ACTS", paused(28), 14, 0, 121);
        undoAll("100 ACTS", paused(99), 14, 0, 50);
        due.under("ACTS: when it is full, each kind of ACT makes the first one forgotten");
        LoveGlass x = paused(13);
        due.due("say(0)", x.say(0), 121);
        undoAll("SAID", x, 14, 0, 135);
        x = paused(13);
        due.due("draw(9)", x.draw(9), 113);
        undoAll("DRAWN", x, 14, 0, 135);
        x = paused(13);
        due.due("turn(0, 0)", x.turn(0, 0), 135);
        undoAll("TURNED", x, 14, 0, 135);
        due.under("ACTS: when it is full, what is refused makes nothing forgotten");
        x = paused(13);
        x.turn(1, 0);
        x.say(1);
        x.draw(10);
        undoAll("refused", x, 14, -9, 0);
        due.under("ACTS: behind undo there is room again");
        x = undone(undone(paused(13)));
        Made.could(x.draw(9), "draw");
        due.due("ACTS", x.about(10), 13);
        Made.could(x.draw(9), "draw");
        undoAll("14 again", x, 14, -9, 0);
        due.under("ACTS: one for one, each undo is of the last one");
        x = paused(20);
        for (int i = 0; i < 40; i++) {
            Made.could(x.draw(1), "draw");
            due.due("undo()", x.undo(), 13);
            due.due("GRAINS", x.about(5), 115);
        }
        due.due("undo() once more", x.undo(), 12);
        due.due("GRAINS once more", x.about(5), 116);
    }

    public static void main(String[] args) {
        turnUnknown();
        turned();
        sayUnknown();
        sayLate();
        sayMore();
        pauses();
        draws();
        undoes();
        actsAtMost();
        due.end();
    }
}
