/** Each sentence on a boundary case of the SLOTS: part 3, promises 31 and 32. */
public final class BoundsSlotsTest {
    private static final int[] NO_NUMBERS = {Integer.MIN_VALUE, Integer.MIN_VALUE + 1, -256, -9, -2, -1};
    private static final String PORT = "EG20G11G32G13S10S21S22S13Y231Y142Y153Y470Y390";
    private static final Due due = new Due();

    private static void keeps() {
        due.under("keep: SLOTS 0 .. 1; UNKNOWN");
        LoveGlass x = Made.turned(PORT, 0, 0, 0);
        due.due("keep(-1)", x.keep(-1), -1);
        due.due("keep(2)", x.keep(2), -1);
        for (int slot : NO_NUMBERS) {
            due.due("keep(" + slot + ")", x.keep(slot), -1);
        }
        due.due("keep(MAX)", x.keep(Integer.MAX_VALUE), -1);
        due.due("nothing was kept in 0", x.again(0), -3);
        due.due("nothing was kept in 1", x.again(1), -3);
        due.due("keep(0)", x.keep(0), 18);
        due.due("keep(1)", x.keep(1), 18);
        due.under("keep: GRAINS left, be they none");
        due.due("all of the largest", Made.turned("EG92S10", 0, 0).keep(0), 135);
        due.due("none left", Made.left(0, Made.turned(PORT, 0, 0)).keep(0), 0);
        due.due("no GLASS runs", Made.port(PORT).keep(0), 0);
        due.due("of a new object", new LoveGlass().keep(1), 0);
        due.under("keep: nothing else is changed, ACTS stay");
        x = Made.turned(PORT, 0, 0, 0);
        due.due("keep(0)", x.keep(0), 18);
        due.due("about(10)", x.about(10), 2);
        due.due("undo()", x.undo(), 1);
        due.due("undo() again", x.undo(), 0);
    }

    private static void againIsLate() {
        due.under("again: SLOTS 0 .. 1; UNKNOWN");
        LoveGlass x = Made.turned(PORT, 0, 0, 0);
        due.due("again(-1)", x.again(-1), -1);
        due.due("again(2)", x.again(2), -1);
        for (int slot : NO_NUMBERS) {
            due.due("again(" + slot + ")", x.again(slot), -1);
        }
        due.due("again(MAX)", x.again(Integer.MAX_VALUE), -1);
        due.under("again: LATE: none were kept");
        due.due("of a new object", new LoveGlass().again(0), -3);
        due.due("again(0)", x.again(0), -3);
        due.due("again(1)", x.again(1), -3);
        due.due("keep(0)", x.keep(0), 18);
        due.due("again(1), 0 was kept", x.again(1), -3);
        x = Made.turned(PORT, 0, 0, 0);
        due.due("keep(1)", x.keep(1), 18);
        due.due("again(0), 1 was kept", x.again(0), -3);
        due.under("again: UNKNOWN is told ahead of LATE");
        due.due("again(2), none were kept", new LoveGlass().again(2), -1);
        due.under("again: what is refused changes nothing, ACTS stay");
        x = Made.turned(PORT, 0, 0, 0);
        x.again(0);
        x.again(2);
        due.due("about(10)", x.about(10), 2);
        due.due("what later calls show", Later.shows(x), Later.shows(Made.turned(PORT, 0, 0, 0)));
    }

    private static void runIs(String where, LoveGlass x, int[] all, int... said) {
        for (int what = 3; what <= 10; what++) {
            due.due(where + ": about(" + what + ")", x.about(what), all[what - 3]);
        }
        for (int place = 0; place < said.length; place++) {
            due.due(where + ": said(" + place + ")", x.said(place), said[place]);
        }
        due.due(where + ": said(" + said.length + ")", x.said(said.length), -1);
    }

    private static void goesOn() {
        due.under("again: which GLASS runs for whom, what is left, what is SAID, as they were kept");
        LoveGlass x = Made.left(30, Made.turned(PORT, 2, 3, 3, 0, 1, 2));
        Made.could(x.keep(0), "keep");
        Made.could(x.turn(0, 1), "turn");
        Made.could(x.say(4), "say");
        due.due("again(0)", x.again(0), 30);
        runIs("kept", x, new int[] {2, 3, 30, 4, 15, 19, 1, 0}, 3, 0, 1, 2);
        due.under("again: no ACTS");
        due.due("undo()", x.undo(), -3);
        Made.could(x.pause(), "pause");
        due.due("one more", x.about(10), 1);
        due.due("undo() of it", x.undo(), 0);
        due.due("undo() again", x.undo(), -3);
        due.under("again: what was kept stays as it was");
        Made.could(x.say(4), "say");
        Made.could(x.draw(9), "draw");
        due.due("again(0)", x.again(0), 30);
        runIs("kept", x, new int[] {2, 3, 30, 4, 15, 19, 1, 0}, 3, 0, 1, 2);
        due.under("again: kept with no GRAIN left");
        x = Made.left(0, Made.turned(PORT, 3, 0, 0));
        Made.could(x.keep(1), "keep");
        Made.could(x.turn(0, 1), "turn");
        due.due("again(1)", x.again(1), 0);
        runIs("none left", x, new int[] {3, 0, 0, 1, 1, 3, 0, 0}, 0);
        due.under("again: kept with no GLASS running");
        x = Made.port(PORT);
        Made.could(x.keep(1), "keep");
        Made.could(x.turn(0, 0), "turn");
        Made.could(x.say(0), "say");
        due.due("again(1)", x.again(1), 0);
        runIs("none runs", x, new int[] {-9, -9, 0, 0, 0, 0, 0, 0});
        due.due("say(0)", x.say(0), -3);
        due.under("again: TIMED and THE SEED are not kept");
        x = Made.turned(PORT, 0, 0);
        Made.could(x.keep(0), "keep");
        Made.could(x.time(0, 0, 1, 2), "time");
        x.seed(8);
        Made.could(x.again(0), "again");
        due.due("about(11)", x.about(11), 1);
        due.due("seed(0)", x.seed(0), 8);
    }

    private static void twoSlots() {
        due.under("SLOTS: each for itself");
        LoveGlass x = Made.turned(PORT, 0, 0, 0);
        Made.could(x.keep(0), "keep");
        Made.could(x.turn(2, 1), "turn");
        Made.could(x.keep(1), "keep");
        Made.could(x.turn(3, 2), "turn");
        due.due("again(0)", x.again(0), 18);
        runIs("slot 0", x, new int[] {0, 0, 18, 1, 1, 3, 0, 0}, 0);
        due.due("again(1)", x.again(1), 45);
        runIs("slot 1", x, new int[] {2, 1, 45, 0, 0, 0, 0, 0});
        due.due("again(0) once more", x.again(0), 18);
        due.under("SLOTS: what is kept over again is the later one");
        Made.could(x.say(1), "say");
        due.due("keep(1)", x.keep(1), 17);
        Made.could(x.turn(3, 2), "turn");
        due.due("again(1)", x.again(1), 17);
        runIs("slot 1", x, new int[] {0, 0, 17, 2, 3, 7, 0, 0}, 0, 1);
        due.due("slot 0 is as it was", x.again(0), 18);
        due.under("SLOTS: what was kept is gone when THE PORT is made anew");
        Made.anew(x, "E");
        due.due("again(0)", x.again(0), -3);
        due.due("again(1)", x.again(1), -3);
        due.under("SLOTS: what was kept is there when THE PORT can not be made anew");
        x = Made.turned(PORT, 0, 0, 0);
        Made.could(x.keep(0), "keep");
        Made.could(x.write('X'), "write");
        due.due("port()", x.port(), -3);
        due.due("again(0)", x.again(0), 18);
        due.under("SLOTS: undo, untime, wipe leave what was kept");
        x = Made.turned(PORT, 0, 0, 0);
        Made.could(x.keep(0), "keep");
        Made.could(x.undo(), "undo");
        Made.could(x.undo(), "undo");
        x.untime();
        x.wipe();
        due.due("again(0)", x.again(0), 18);
    }

    public static void main(String[] args) {
        keeps();
        againIsLate();
        goesOn();
        twoSlots();
        due.end();
    }
}
