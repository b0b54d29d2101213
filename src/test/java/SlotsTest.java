/** Promises 31 and 32: slots. */
public final class SlotsTest {
    private static final String PORT = "EG20G11G32G13S10S21S22S13Y231Y142Y153Y470Y390";
    private static final Due due = new Due();

    private static void promise31() {
        LoveGlass x = Due.port(PORT);
        due.due("keep(-1)", x.keep(-1), -1);
        due.due("keep(2)", x.keep(2), -1);
        due.due("keep(MAX)", x.keep(Integer.MAX_VALUE), -1);
        due.due("nothing was kept", x.again(0), -3);
        due.due("no glass runs", x.keep(0), 0);
        x.turn(0, 3);
        x.say(1);
        String was = Due.seen(x);
        due.due("keep(1)", x.keep(1), 19);
        due.due("keep changes nothing that is seen", Due.seen(x), was);
        due.due("acts stay", x.undo(), 1);
        x.pause();
        x.turn(2, 0);
        due.due("kept over again", x.keep(1), 45);
        x.turn(0, 0);
        due.due("the later one is kept", x.again(1), 45);
        due.due("in which glass", x.about(3), 2);
    }

    private static void promise32() {
        LoveGlass x = Due.port(PORT);
        due.due("again(-1)", x.again(-1), -1);
        due.due("again(2)", x.again(2), -1);
        due.due("none was kept", x.again(0), -3);
        due.due("none was kept, 1", x.again(1), -3);
        due.due("no glass runs", x.keep(1), 0);
        x.turn(2, 3);
        x.say(3);
        x.say(0);
        x.draw(2);
        due.due("keep(0)", x.keep(0), 36);
        x.time(0, 0, 1, 9);
        x.seed(8);
        x.turn(1, 0);
        x.say(1);
        String was = Due.seen(x);
        due.due("again(2) in a run", x.again(2), -1);
        due.due("again that is refused changes nothing", Due.seen(x), was);
        due.due("again(0)", x.again(0), 36);
        int[] all = {4, 4, 5, 2, 3, 36, 2, 9, 10, 0, 0, 1, 45};
        for (int what = 0; what < all.length; what++) {
            due.due("gone on: about(" + what + ")", x.about(what), all[what]);
        }
        due.due("said(0)", x.said(0), 3);
        due.due("said(1)", x.said(1), 0);
        due.due("said(2)", x.said(2), -1);
        due.due("no acts", x.undo(), -3);
        due.due("the seed stays", x.seed(0), 8);
        due.due("it goes on", x.say(1), 33);
        due.due("an act", x.about(10), 1);
        due.due("what is kept stays as it was", x.again(0), 36);
        due.due("not said again", x.about(6), 2);
        due.due("what was kept with no glass", x.again(1), 0);
        due.due("no glass", x.about(3), -9);
        due.due("nobody", x.about(4), -9);
        due.due("nothing said", x.about(6), 0);
        due.due("say", x.say(0), -3);
        due.due("both are kept still", x.again(0), 36);
        Due.tell(x, "EG10");
        x.port();
        due.due("gone by a port", x.again(0), -3);
        due.due("gone by a port, 1", x.again(1), -3);
        due.due("a new object has none", new LoveGlass().again(1), -3);
    }

    public static void main(String[] args) {
        promise31();
        promise32();
        due.end();
    }
}
