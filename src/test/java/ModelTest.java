/** Long runs of calls on an object and on the model, side by side: each answer, and all that can be seen behind it. */
public final class ModelTest {
    /** An object is used for at most 512 calls; one doing and a look behind it are fewer than MARGIN. */
    private static final int OBJECTS = 6000, MOST_CALLS = 512, MARGIN = 90;
    private static final String[] SORT_ROWS = {"123", "1230", "12300", "112233", "0123", "321", "12", "3", "", "10203", "123123"};

    private final Due due = new Due();
    private long state = 20261119;
    private LoveGlass x;
    private Model model;
    private String name;
    private int calls;

    /** A number below n, by a fixed row of numbers. */
    private int below(int n) {
        state = state * 2862933555777941757L + 3037000493L;
        return (int) ((state >>> 33) % n);
    }

    private int from(int least, int most) {
        return least + below(most - least + 1);
    }

    private String anyPort() {
        StringBuilder s = new StringBuilder("E");
        String sorts = SORT_ROWS[below(SORT_ROWS.length)];
        int glasses = below(5);
        int suitors = below(5);
        int most = from(1, 9);
        int sayings = sorts.length();
        while (glasses + suitors + sayings > 0) {
            int which = below(glasses + suitors + sayings);
            if (which < glasses) {
                s.append('G').append(from(1, most)).append(below(4));
                glasses--;
            } else if (which < glasses + suitors) {
                s.append('S').append(from(1, below(3) == 0 ? 4 : 2)).append(below(4));
                suitors--;
            } else {
                s.append('Y').append(from(1, most)).append(below(below(2) == 0 ? 3 : 10));
                s.append(below(6) == 0 ? (char) ('0' + below(4)) : sorts.charAt(sayings - 1));
                sayings--;
            }
        }
        return s.toString();
    }

    private void same(String call, long got, long want) {
        calls++;
        due.due(name + " " + call, got, want);
    }

    private void tell(String text) {
        same("wipe()", x.wipe(), model.wipe());
        for (int i = 0; i < text.length(); i++) {
            same("write(" + (int) text.charAt(i) + ")", x.write(text.charAt(i)), model.write(text.charAt(i)));
        }
    }

    /** A text that is a port but for a letter that is put in, left out or made another, or for its end. */
    private String spoiled(String text) {
        StringBuilder s = new StringBuilder(text);
        int place = below(text.length());
        String letters = "EGSY0123456789:/A";
        char letter = letters.charAt(below(letters.length()));
        switch (below(4)) {
            case 0:
                s.setCharAt(place, letter);
                break;
            case 1:
                s.insert(place, letter);
                break;
            case 2:
                s.deleteCharAt(place);
                break;
            default:
                s.setLength(place);
        }
        return s.toString();
    }

    private void textCall() {
        switch (below(7)) {
            case 0:
                tell(spoiled(anyPort()));
                break;
            case 1:
                tell(anyPort());
                same("port()", x.port(), model.port());
                break;
            case 2:
                same("port()", x.port(), model.port());
                break;
            case 3:
                int letter = from(-2, 257);
                same("write(" + letter + ")", x.write(letter), model.write(letter));
                break;
            case 4:
                int more = below(60);
                for (int i = 0; i < more; i++) {
                    same("write(71)", x.write(71), model.write(71));
                }
                break;
            default:
                break;
        }
        same("fault()", x.fault(), model.fault());
    }

    private void actCall() {
        int a = from(-1, 4);
        int b = from(-1, 4);
        int y = from(-1, 6);
        switch (below(12)) {
            case 0:
            case 1:
                same("turn(" + a + ", " + b + ")", x.turn(a, b), model.turn(a, b));
                break;
            case 2:
                same("pause()", x.pause(), model.pause());
                break;
            case 3:
                int n = from(-1, 10);
                same("draw(" + n + ")", x.draw(n), model.draw(n));
                break;
            case 4:
                same("undo()", x.undo(), model.undo());
                break;
            case 5:
                same("keep(" + (a - 1) + ")", x.keep(a - 1), model.keep(a - 1));
                break;
            case 6:
                same("again(" + (a - 1) + ")", x.again(a - 1), model.again(a - 1));
                break;
            default:
                same("say(" + y + ")", x.say(y), model.say(y));
        }
    }

    private void askCall() {
        int a = from(-1, 4);
        int b = from(-1, 4);
        int y = from(-1, 6);
        int i = from(-1, 6);
        boolean yes = below(2) == 0;
        switch (below(11)) {
            case 0:
                same("glass(" + a + ", " + b + ")", x.glass(a, b), model.glass(a, b));
                same("suitor(" + a + ", " + b + ")", x.suitor(a, b), model.suitor(a, b));
                break;
            case 1:
                same("saying(" + y + ", " + b + ")", x.saying(y, b), model.saying(y, b));
                same("takes(" + y + ", " + a + ", " + b + ", " + i + ")", x.takes(y, a, b, i), model.takes(y, a, b, i));
                break;
            case 2:
                same("warmest(" + yes + ")", x.warmest(yes), model.warmest(yes));
                break;
            case 3:
                same("shortest(" + yes + ")", x.shortest(yes), model.shortest(yes));
                break;
            case 4:
                same("can(" + a + ")", x.can(a), model.can(a));
                break;
            case 5:
                same("does(" + a + ")", x.does(a), model.does(a));
                break;
            case 6:
                judge();
                break;
            case 7:
                same("misheard(" + (2 * y) + ", " + yes + ")", x.misheard(2 * y, yes), model.misheard(2 * y, yes));
                break;
            case 8:
                int m = from(-1, 32);
                same("weeks(" + m + ")", x.weeks(m), model.weeks(m));
                break;
            case 9:
                long v = below(2) == 0 ? below(100) : state;
                same("seed(" + v + ")", x.seed(v), model.seed(v));
                break;
            default:
                dearCall(a, b, y, i, yes);
        }
    }

    private void dearCall(int a, int b, int y, int i, boolean yes) {
        switch (below(3)) {
            case 0:
                same("matched(" + yes + ")", x.matched(yes), model.matched(yes));
                break;
            case 1:
                same("share(" + y + ", " + yes + ")", x.share(y, yes), model.share(y, yes));
                break;
            default:
                same("rests(" + a + ", " + b + ", " + (i & 3) + ")", x.rests(a, b, i & 3), model.rests(a, b, i & 3));
        }
    }

    private void judge() {
        int n = from(0, 5);
        int row = 0;
        for (int i = 0; i < n && i < 4; i++) {
            int doing = below(6);
            int figure = doing == 1 || doing == 3 ? below(8) / 7 : doing == 0 ? below(6) : below(10);
            row = row * 100 + 10 * doing + figure;
        }
        row = below(20) == 0 ? row * 100 + 1 : below(20) == 0 ? -row : row;
        same("judge(" + n + ", " + row + ")", x.judge(n, row), model.judge(n, row));
    }

    private void timeCall() {
        int y = from(-1, 6);
        int i = from(below(5) == 0 ? -1 : 0, below(5) == 0 ? 6 : 3);
        int p = from(below(5) == 0 ? 0 : 1, below(5) == 0 ? 5 : 3);
        int plain = Math.max(0, model.saying(y, 0)) * p;
        int[] likely = {plain, plain / 2, plain * 2, plain + i, below(102) - 1};
        int g = likely[below(5)];
        switch (below(8)) {
            case 0:
                same("untime()", x.untime(), model.untime());
                break;
            case 1:
                break;
            default:
                same("time(" + y + ", " + i + ", " + p + ", " + g + ")", x.time(y, i, p, g), model.time(y, i, p, g));
        }
        same("kinds()", x.kinds(), model.kinds());
    }

    private void look() {
        for (int what = -1; what <= 13; what++) {
            same("about(" + what + ")", x.about(what), model.about(what));
        }
        for (int place = -1; place <= 6; place++) {
            same("said(" + place + ")", x.said(place), model.said(place));
        }
    }

    private void runObject(int object) {
        name = "object " + object + ":";
        calls = 0;
        x = new LoveGlass();
        model = new Model();
        if (below(10) != 0) {
            tell(anyPort());
            same("port()", x.port(), model.port());
        }
        while (calls < MOST_CALLS - MARGIN) {
            int which = below(100);
            if (which < 2) {
                textCall();
            } else if (which < 60) {
                actCall();
            } else if (which < 90) {
                askCall();
            } else {
                timeCall();
            }
            if (below(5) == 0) {
                look();
            }
        }
    }

    public static void main(String[] args) {
        ModelTest test = new ModelTest();
        for (int object = 0; object < OBJECTS; object++) {
            test.runObject(object);
        }
        test.due.end();
    }
}
