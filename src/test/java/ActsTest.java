/** Promises 12 to 16: acts. */
public final class ActsTest {
    private static final String PORT = "EG20G11G32G13S10S31S22S13Y231Y142Y153Y570Y390";
    private static final Due due = new Due();

    private static void promise12() {
        LoveGlass x = Due.port(PORT);
        String was = Due.seen(x);
        due.due("turn(4, 0)", x.turn(4, 0), -1);
        due.due("turn(-1, 0)", x.turn(-1, 0), -1);
        due.due("turn(0, 4)", x.turn(0, 4), -1);
        due.due("turn(0, -1)", x.turn(0, -1), -1);
        due.due("turn that is refused changes nothing", Due.seen(x), was);
        due.due("turn(0, 0)", x.turn(0, 0), 20);
        due.due("turn(1, 1)", x.turn(1, 1), 10);
        due.due("turn(2, 3)", x.turn(2, 3), 45);
        due.due("which", x.about(3), 2);
        due.due("for whom", x.about(4), 3);
        x.say(0);
        due.due("anew", x.turn(2, 3), 45);
        due.due("nothing is said", x.about(6), 0);
        due.due("acts", x.about(10), 5);
        x.say(0);
        was = Due.seen(x);
        due.due("turn(4, 4)", x.turn(4, 4), -1);
        due.due("what runs goes on", Due.seen(x), was);
    }

    private static void promise13() {
        LoveGlass x = Due.port(PORT);
        String was = Due.seen(x);
        due.due("no glass runs", x.say(0), -3);
        due.due("no such saying", x.say(5), -1);
        due.due("say(-1)", x.say(-1), -1);
        due.due("say that is refused changes nothing", Due.seen(x), was);
        x.turn(1, 0);
        due.due("say(0)", x.say(0), 6);
        due.due("twice", x.say(0), -3);
        due.due("it takes 7 of 6", x.say(3), -3);
        due.due("it takes 3 of 6", x.say(1), 3);
        due.due("it takes 3 of 3", x.say(2), 0);
        due.due("nothing is left", x.say(4), -3);
        due.due("acts", x.about(10), 4);
        x.turn(0, 3);
        due.due("the fisherman's first", x.say(1), 19);
        due.due("the fisherman's second", x.say(0), 16);
        due.due("the fisherman's third", x.say(2), 13);
        x.turn(0, 2);
        due.due("the stammerer's first", x.say(1), 16);
        due.due("the stammerer's second", x.say(0), 12);
        was = Due.seen(x);
        due.due("said since", x.say(0), -3);
        due.due("no such saying in a run", x.say(6), -1);
        due.due("a refusal in a run changes nothing", Due.seen(x), was);
        x = Due.port("EG10S11Y550Y550Y100Y100");
        x.turn(0, 0);
        due.due("the poet's half of 5", x.say(0), 8);
        x.draw(8);
        due.due("a saying that takes none of none", x.say(2), 0);
        due.due("another one", x.say(3), 0);
        due.due("one that takes 2 of none", x.say(1), -3);
    }

    private static void promise14() {
        LoveGlass x = Due.port(PORT);
        String was = Due.seen(x);
        due.due("no glass runs", x.pause(), -3);
        due.due("pause that is refused changes nothing", Due.seen(x), was);
        x.turn(0, 0);
        due.due("pause()", x.pause(), 19);
        due.due("an act", x.about(10), 2);
        x.draw(9);
        x.draw(9);
        due.due("the last grain", x.pause(), 0);
        was = Due.seen(x);
        due.due("none is left", x.pause(), -3);
        due.due("pause of none changes nothing", Due.seen(x), was);
        x.turn(3, 0);
        due.due("in hers", x.pause(), 10);
        x.draw(9);
        x.draw(9);
        int acts = x.about(10);
        due.due("in hers, with none left", x.pause(), 0);
        due.due("that is an act", x.about(10), acts + 1);
        x.turn(1, 0);
        due.due("in a cracked one", x.pause(), 9);
        x.turn(2, 0);
        due.due("in a red one", x.pause(), 44);
        x.say(0);
        x.pause();
        due.due("what is said stays", x.said(0), 0);
    }

    private static void promise15() {
        LoveGlass x = Due.port(PORT);
        String was = Due.seen(x);
        due.due("draw(0)", x.draw(0), -2);
        due.due("draw(10)", x.draw(10), -2);
        due.due("draw(-1)", x.draw(-1), -2);
        due.due("no glass runs", x.draw(1), -3);
        due.due("draw that is refused changes nothing", Due.seen(x), was);
        x.turn(0, 0);
        x.say(0);
        due.due("draw(1)", x.draw(1), 17);
        due.due("draw(9)", x.draw(9), 8);
        due.due("0 at least", x.draw(9), 0);
        due.due("acts", x.about(10), 5);
        due.due("what is said stays", x.about(7), 1);
        was = Due.seen(x);
        due.due("none is left", x.draw(1), -3);
        due.due("BAD is told first", x.draw(0), -2);
        due.due("draw of none changes nothing", Due.seen(x), was);
        due.due("the glass still runs", x.about(3), 0);
        x.turn(3, 0);
        due.due("from hers", x.draw(4), 6);
    }

    private static void promise16() {
        LoveGlass x = Due.port(PORT);
        String start = Due.seen(x);
        due.due("none", x.undo(), -3);
        due.due("undo of none changes nothing", Due.seen(x), start);
        x.turn(0, 2);
        x.say(1);
        String said = Due.seen(x);
        x.draw(9);
        x.draw(9);
        String drawn = Due.seen(x);
        x.turn(3, 1);
        String turned = Due.seen(x);
        x.pause();
        due.due("the pause", x.undo(), 5);
        due.due("ahead of the pause", Due.seen(x), turned);
        due.due("the turn", x.undo(), 4);
        due.due("ahead of the turn", Due.seen(x), drawn);
        due.due("a draw", x.undo(), 3);
        due.due("another", x.undo(), 2);
        due.due("ahead of both", Due.seen(x), said);
        due.due("the saying", x.undo(), 1);
        due.due("not said", x.about(6), 0);
        due.due("grains", x.about(5), 20);
        due.due("the first turn", x.undo(), 0);
        due.due("as at first", Due.seen(x), start);
        due.due("none any more", x.undo(), -3);
        forgets(x);
    }

    private static void forgets(LoveGlass x) {
        x.turn(2, 0);
        for (int i = 1; i <= 13; i++) {
            x.pause();
        }
        due.due("14 acts", x.about(10), 14);
        x.draw(1);
        x.draw(2);
        due.due("14 acts at most", x.about(10), 14);
        for (int i = 13; i >= 0; i--) {
            due.due("undo, down to " + i, x.undo(), i);
        }
        due.due("the turn and a pause are forgotten", x.about(5), 44);
        due.due("no act is left", x.undo(), -3);
        x.pause();
        due.due("one more act", x.about(10), 1);
        due.due("undone", x.undo(), 0);
        due.due("grains", x.about(5), 44);
    }

    public static void main(String[] args) {
        promise12();
        promise13();
        promise14();
        promise15();
        promise16();
        due.end();
    }
}
