/** Counts the answers that are not the ones that are due, and tells each. */
final class Due {
    private int right;
    private int wrong;

    void due(String call, long got, long want) {
        if (got == want) {
            right++;
        } else {
            wrong++;
            System.out.println(call + " answered " + got + ", due is " + want);
        }
    }

    void due(String what, String got, String want) {
        if (got.equals(want)) {
            right++;
        } else {
            wrong++;
            System.out.println(what + " was " + got + ", due is " + want);
        }
    }

    void end() {
        System.out.println(right + " answers are as due, " + wrong + " are not");
        if (wrong != 0 || right == 0) {
            System.exit(1);
        }
    }

    /** An object whose text is told, without a port. */
    static LoveGlass told(String text) {
        LoveGlass x = new LoveGlass();
        tell(x, text);
        return x;
    }

    static void tell(LoveGlass x, String text) {
        x.wipe();
        for (int i = 0; i < text.length(); i++) {
            x.write(text.charAt(i));
        }
    }

    /** An object whose port is told. */
    static LoveGlass port(String text) {
        LoveGlass x = told(text);
        x.port();
        return x;
    }

    /** All that can be seen of an object without changing it, but for what hangs on an argument. */
    static String seen(LoveGlass x) {
        StringBuilder s = new StringBuilder();
        for (int what = 0; what <= 12; what++) {
            s.append(x.about(what)).append(' ');
        }
        for (int place = 0; place < 6; place++) {
            s.append(x.said(place)).append(' ');
        }
        s.append(x.fault()).append(' ').append(x.kinds()).append(' ');
        long seed = x.seed(0);
        x.seed(seed);
        return s.append(seed).toString();
    }
}
