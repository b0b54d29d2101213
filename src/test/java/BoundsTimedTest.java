/** Each sentence on a boundary case of what is TIMED and of KINDS: part 3, promises 24 to 26. */
public final class BoundsTimedTest {
    private static final int[] NO_NUMBERS = {Integer.MIN_VALUE, Integer.MIN_VALUE + 1, -256, -9, -2, -1};
    /** A filler of 3 letters, a name of 3 letters. */
    private static final String PORT = "EY310Y391";
    private static final Due due = new Due();

    /** An object by which so many are timed, each of them so by all kinds but a stammerer. */
    private static LoveGlass timed(int many) {
        LoveGlass x = Made.port(PORT);
        for (int i = 0; i < many; i++) {
            Made.could(x.time(1, 0, 1, 3), "time");
        }
        return x;
    }

    private static void timeUnknown() {
        due.under("time: UNKNOWN: saying");
        LoveGlass x = Made.port(PORT);
        due.due("time(-1, 0, 1, 0)", x.time(-1, 0, 1, 0), -1);
        due.due("time(2, 0, 1, 0)", x.time(2, 0, 1, 0), -1);
        for (int saying : NO_NUMBERS) {
            due.due("time(" + saying + ", 0, 1, 0)", x.time(saying, 0, 1, 0), -1);
        }
        due.due("time(MAX, 0, 1, 0)", x.time(Integer.MAX_VALUE, 0, 1, 0), -1);
        due.due("none is TIMED", x.about(11), 0);
        due.due("time(0, 0, 1, 0)", x.time(0, 0, 1, 0), 1);
        due.due("time(1, 0, 1, 0)", x.time(1, 0, 1, 0), 2);
        due.due("of a new object", new LoveGlass().time(0, 0, 1, 0), -1);
        LoveGlass six = Made.port("EY100Y100Y100Y100Y100Y100");
        due.due("time(6, 0, 1, 0) of six", six.time(6, 0, 1, 0), -1);
        due.due("time(5, 0, 1, 0) of six", six.time(5, 0, 1, 0), 1);
    }

    private static void timeBad() {
        due.under("time: BAD: place (0 .. 5)");
        due.due("place -1", timed(0).time(0, -1, 1, 0), -2);
        due.due("place 0", timed(0).time(0, 0, 1, 0), 1);
        due.due("place 5", timed(0).time(0, 5, 1, 0), 1);
        due.due("place 6", timed(0).time(0, 6, 1, 0), -2);
        due.due("place MAX", timed(0).time(0, Integer.MAX_VALUE, 1, 0), -2);
        due.under("time: BAD: pace (1 .. 4)");
        due.due("pace 0", timed(0).time(0, 0, 0, 0), -2);
        due.due("pace 1", timed(0).time(0, 0, 1, 0), 1);
        due.due("pace 4", timed(0).time(0, 0, 4, 0), 1);
        due.due("pace 5", timed(0).time(0, 0, 5, 0), -2);
        due.due("pace MAX", timed(0).time(0, 0, Integer.MAX_VALUE, 0), -2);
        due.under("time: BAD: g (0 .. 99)");
        due.due("g -1", timed(0).time(0, 0, 1, -1), -2);
        due.due("g 0", timed(0).time(0, 0, 1, 0), 1);
        due.due("g 99", timed(0).time(0, 0, 1, 99), 1);
        due.due("g 100", timed(0).time(0, 0, 1, 100), -2);
        due.due("g MAX", timed(0).time(0, 0, 1, Integer.MAX_VALUE), -2);
        for (int number : NO_NUMBERS) {
            due.due("place " + number, timed(0).time(0, number, 1, 0), -2);
            due.due("pace " + number, timed(0).time(0, 0, number, 0), -2);
            due.due("g " + number, timed(0).time(0, 0, 1, number), -2);
        }
        due.under("time: UNKNOWN is told ahead of BAD");
        due.due("place 6", timed(0).time(2, 6, 1, 0), -1);
        due.due("pace 5", timed(0).time(2, 0, 5, 0), -1);
        due.due("g 100", timed(0).time(-1, 0, 1, 100), -1);
    }

    private static void timeFull() {
        due.under("TIMED: 6 such at most");
        LoveGlass x = timed(0);
        for (int i = 1; i <= 6; i++) {
            due.due("the " + i + "-th", x.time(1, 0, 1, 3), i);
            due.due("about(11)", x.about(11), i);
        }
        due.under("time: FULL: 6");
        due.due("the 7th", x.time(1, 0, 1, 3), -4);
        due.due("once more", x.time(0, 5, 4, 99), -4);
        due.under("time: FULL changes nothing");
        due.due("about(11)", x.about(11), 6);
        due.due("kinds() are those of the six", x.kinds(), 11);
        due.under("time: UNKNOWN and BAD are told ahead of FULL");
        due.due("saying 2", timed(6).time(2, 0, 1, 0), -1);
        due.due("saying 2, place 6", timed(6).time(2, 6, 1, 0), -1);
        due.due("place 6", timed(6).time(0, 6, 1, 0), -2);
        due.due("pace 0", timed(6).time(0, 0, 0, 0), -2);
        due.due("g 100", timed(6).time(0, 0, 1, 100), -2);
        due.under("time: it is not FULL any more behind untime");
        due.due("untime()", x.untime(), 6);
        due.due("time(0, 0, 1, 3)", x.time(0, 0, 1, 3), 1);
        due.under("TIMED: by no SUITOR that there is, in no GLASS that runs, no ACT");
        due.due("ACTS", timed(3).about(10), 0);
    }

    private static void untimes() {
        due.under("untime: nothing is TIMED: how much there was");
        for (int many = 0; many <= 6; many++) {
            LoveGlass x = timed(many);
            due.due("untime() of " + many, x.untime(), many);
            due.due("untime() again", x.untime(), 0);
            due.due("about(11)", x.about(11), 0);
        }
        due.due("of a new object", new LoveGlass().untime(), 0);
        due.under("untime: what was TIMED counts no more");
        LoveGlass x = Made.port(PORT);
        Made.could(x.time(0, 0, 1, 99), "time");
        due.due("kinds() ahead", x.kinds(), 0);
        Made.could(x.untime(), "untime");
        due.due("kinds() behind", x.kinds(), 15);
        Made.could(x.time(0, 0, 1, 6), "time");
        due.due("kinds() by the one of now", x.kinds(), 4);
        Made.could(x.untime(), "untime");
        Made.could(x.time(1, 4, 3, 13), "time");
        due.due("kinds() by another place, PACE and SAYING", x.kinds(), 8);
    }

    /** The kinds by one that is timed: a saying of the port, as the i-th, by a pace, and what it took. */
    private static void kindsBy(int saying, int i, int pace, int g, int kinds) {
        LoveGlass x = Made.port(PORT);
        Made.could(x.time(saying, i, pace, g), "time");
        due.due("kinds() by time(" + saying + ", " + i + ", " + pace + ", " + g + ")", x.kinds(), kinds);
    }

    private static void kinds() {
        due.under("KINDS: all, if nothing is TIMED");
        due.due("of a new object", new LoveGlass().kinds(), 15);
        due.due("of a port", Made.port(PORT).kinds(), 15);
        due.under("KINDS: PLAIN");
        kindsBy(0, 1, 1, 3, 1 + 4);
        kindsBy(0, 1, 1, 2, 0);
        due.under("KINDS: POET: half of a FILLER (cut)");
        kindsBy(0, 0, 1, 1, 2);
        kindsBy(0, 0, 1, 2, 0);
        kindsBy(0, 2, 3, 4, 2);
        kindsBy(0, 2, 3, 5, 0);
        kindsBy(1, 0, 1, 1, 0);
        due.under("KINDS: STAMMERER: twice, if i is 0");
        kindsBy(0, 0, 1, 6, 4);
        kindsBy(1, 0, 1, 6, 4);
        kindsBy(1, 1, 1, 6, 0);
        kindsBy(1, 1, 1, 3, 1 + 2 + 4);
        due.under("KINDS: FISHERMAN: i more");
        kindsBy(1, 0, 1, 3, 1 + 2 + 8);
        kindsBy(1, 1, 1, 4, 8);
        kindsBy(1, 5, 1, 8, 8);
        kindsBy(1, 5, 1, 9, 0);
        due.under("KINDS: by PACE 4, the most");
        kindsBy(1, 5, 4, 12, 1 + 2 + 4);
        kindsBy(1, 5, 4, 17, 8);
        kindsBy(1, 0, 4, 24, 4);
        due.under("KINDS: g of 0: a POET's FILLER of one LETTER");
        LoveGlass x = Made.port("EY100");
        Made.could(x.time(0, 0, 1, 0), "time");
        due.due("kinds()", x.kinds(), 2);
        due.under("KINDS: in a PLAIN GLASS, though THE PORT's are CRACKED");
        x = Made.turned("EG11S12Y310Y391", 0, 0);
        Made.could(x.time(1, 1, 1, 3), "time");
        due.due("kinds()", x.kinds(), 1 + 2 + 4);
        due.under("KINDS: by which all that is TIMED is so");
        for (int place = 0; place < 6; place++) {
            x = Made.port(PORT);
            for (int i = 0; i < 6; i++) {
                Made.could(i == place ? x.time(1, 1, 1, 4) : x.time(1, 0, 1, 3), "time");
            }
            due.due("the " + place + "-th is a FISHERMAN's alone", x.kinds(), 8);
        }
        x = Made.port(PORT);
        Made.could(x.time(1, 0, 1, 6), "time");
        Made.could(x.time(1, 1, 1, 4), "time");
        due.due("one a STAMMERER's, one a FISHERMAN's", x.kinds(), 0);
    }

    private static void kindsOfAnother() {
        due.under("KINDS: of SAYINGS that there are not any more nothing is looked at");
        LoveGlass x = Made.port(PORT);
        Made.could(x.time(1, 1, 1, 99), "time");
        due.due("it is there", x.kinds(), 0);
        Made.anew(x, "EY310");
        due.due("it is not any more", x.kinds(), 15);
        due.due("it is TIMED still", x.about(11), 1);
        Made.could(x.time(0, 0, 1, 6), "time");
        due.due("another one that is there", x.kinds(), 4);
        Made.anew(x, "E");
        due.due("none is there", x.kinds(), 15);
        Made.anew(x, PORT);
        due.due("both are there again", x.kinds(), 0);
        due.under("KINDS: by the SAYINGS that there are now");
        x = Made.port("EY211");
        Made.could(x.time(0, 0, 1, 2), "time");
        due.due("2 of two LETTERS", x.kinds(), 1 + 2 + 8);
        Made.anew(x, "EY410");
        due.due("2 of a FILLER of four", x.kinds(), 2);
        Made.anew(x, "EY111");
        due.due("2 of one LETTER", x.kinds(), 4);
        due.under("kinds changes nothing");
        x = timed(2);
        x.kinds();
        due.due("what later calls show", Later.shows(x), Later.shows(timed(2)));
    }

    public static void main(String[] args) {
        timeUnknown();
        timeBad();
        timeFull();
        untimes();
        kinds();
        kindsOfAnother();
        due.end();
    }
}
