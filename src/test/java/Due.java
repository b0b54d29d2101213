/** Counts the answers that are not the ones that are due, and tells each. */
final class Due {
    private int right;
    private int wrong;
    private int sentences;
    private int answersOfSentence;
    private String sentence = "";

    void due(String call, long got, long want) {
        due(call, String.valueOf(got), String.valueOf(want));
    }

    void due(String call, String got, String want) {
        answersOfSentence++;
        if (got.equals(want)) {
            right++;
        } else {
            wrong++;
            String of = sentence.isEmpty() ? "" : " [" + sentence + "]";
            System.out.println(call + " answered " + got + ", due is " + want + of);
        }
    }

    /** The sentence of the document to which the answers to come belong; each has to be looked at. */
    void under(String words) {
        endSentence();
        sentence = words;
        sentences++;
        answersOfSentence = 0;
    }

    private void endSentence() {
        if (!sentence.isEmpty() && answersOfSentence == 0) {
            wrong++;
            System.out.println("nothing was looked at [" + sentence + "]");
        }
    }

    void end() {
        endSentence();
        String of = sentences == 0 ? "" : ", of " + sentences + " sentences";
        System.out.println(right + " answers are as due, " + wrong + " are not" + of);
        if (wrong != 0 || right == 0) {
            System.exit(1);
        }
    }

    /** An object whose text is told, without a port. */
    static LoveGlass told(String text) {
        LoveGlass x = new LoveGlass();
        tell(x, text);
        return x;
    }

    static void tell(LoveGlass x, String text) {
        x.wipe();
        for (int i = 0; i < text.length(); i++) {
            x.write(text.charAt(i));
        }
    }

    /** An object whose port is told. */
    static LoveGlass port(String text) {
        LoveGlass x = told(text);
        x.port();
        return x;
    }

    /** What runs, in few calls: an object is used for at most 512. */
    static String run(LoveGlass x) {
        return x.about(3) + " " + x.about(4) + " " + x.about(5) + " " + x.about(7) + " " + x.about(10);
    }

    /** All that can be seen of an object without changing it, but for what hangs on an argument. */
    static String seen(LoveGlass x) {
        StringBuilder s = new StringBuilder();
        for (int what = 0; what <= 12; what++) {
            s.append(x.about(what)).append(' ');
        }
        for (int place = 0; place < 6; place++) {
            s.append(x.said(place)).append(' ');
        }
        s.append(x.fault()).append(' ').append(x.kinds()).append(' ');
        long seed = x.seed(0);
        x.seed(seed);
        return s.append(seed).toString();
    }
}
