/**
 * All that later calls show of an object, its acts, its slots and the port that its text tells among it. It uses the
 * object up: what is to be compared is made twice.
 */
final class Later {
    private final LoveGlass x;
    private final StringBuilder s = new StringBuilder();

    private Later(LoveGlass x) {
        this.x = x;
    }

    static String shows(LoveGlass x) {
        Later later = new Later(x);
        later.port();
        later.asked();
        later.run();
        later.acts();
        later.slots();
        later.chances();
        later.text();
        return later.s.toString();
    }

    private void put(long answer) {
        s.append(answer).append(' ');
    }

    private void name(String what) {
        s.append("| ").append(what).append(": ");
    }

    private void port() {
        name("port");
        for (int i = 0; i < 6; i++) {
            for (int what = 0; what < 3; what++) {
                put(x.saying(i, what));
                if (i < 4) {
                    put(x.glass(i, what));
                }
                if (i < 4 && what < 2) {
                    put(x.suitor(i, what));
                }
            }
        }
    }

    private void asked() {
        name("about");
        for (int what = 0; what <= 12; what++) {
            put(x.about(what));
        }
        name("asked");
        put(x.fault());
        put(x.kinds());
        put(x.warmest(true));
        put(x.shortest(true));
        put(x.misheard(3, true));
        put(x.rests(0, 1, 1));
        put(x.share(0, true));
        put(x.judge(2, 3049));
        put(x.matched(true));
    }

    private void run() {
        name("run");
        for (int what = 3; what <= 7; what++) {
            put(x.about(what));
        }
        for (int place = 0; place < 6; place++) {
            put(x.said(place));
        }
    }

    private void acts() {
        // One more than there can be.
        for (int i = 0; i < 15; i++) {
            name("undo");
            int left = x.undo();
            put(left);
            if (left < 0) {
                break;
            }
            put(x.about(3));
            put(x.about(4));
            put(x.about(5));
            put(x.about(7));
        }
    }

    private void slots() {
        for (int slot = 0; slot < 2; slot++) {
            name("again");
            put(x.again(slot));
            put(x.about(10));
            run();
        }
    }

    private void chances() {
        name("chances");
        put(x.weeks(9));
        put(x.seed(0));
    }

    private void text() {
        name("text");
        put(x.untime());
        put(x.port());
        port();
        put(x.wipe());
    }
}
