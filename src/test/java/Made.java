/** Objects as the tests want them. Whatever can not be done on the way ends the test. */
final class Made {
    private Made() {
    }

    /** An object whose port is told. */
    static LoveGlass port(String text) {
        LoveGlass x = new LoveGlass();
        anew(x, text);
        return x;
    }

    /** The port of an object is told anew. */
    static void anew(LoveGlass x, String text) {
        x.wipe();
        for (int i = 0; i < text.length(); i++) {
            could(x.write(text.charAt(i)), "write " + text);
        }
        could(x.port(), "port of " + text);
    }

    /** An object in whose port a glass is turned for a suitor, and sayings are said. */
    static LoveGlass turned(String text, int glass, int suitor, int... sayings) {
        LoveGlass x = port(text);
        could(x.turn(glass, suitor), "turn in " + text);
        for (int saying : sayings) {
            could(x.say(saying), "say in " + text);
        }
        return x;
    }

    /** The same, with so many grains left. */
    static LoveGlass left(int grains, LoveGlass x) {
        // A glass has 135 grains at most.
        for (int i = 0; i < 135 && x.about(5) > grains; i++) {
            could(x.draw(Math.min(9, x.about(5) - grains)), "draw");
        }
        if (x.about(5) != grains) {
            throw new IllegalStateException("there are " + x.about(5) + " grains left, not " + grains);
        }
        return x;
    }

    static void could(int answer, String what) {
        if (answer < 0) {
            throw new IllegalStateException(what + " answered " + answer);
        }
    }
}
