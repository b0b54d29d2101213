/** Promises 24 to 26: timed. */
public final class TimedTest {
    private static final Due due = new Due();

    private static void promise24() {
        LoveGlass x = Due.port("EY310Y391");
        String was = Due.seen(x);
        due.due("no such saying", x.time(2, 9, 9, 999), -1);
        due.due("time(-1, ..)", x.time(-1, 0, 1, 0), -1);
        due.due("place -1", x.time(0, -1, 1, 0), -2);
        due.due("place 6", x.time(0, 6, 1, 0), -2);
        due.due("pace 0", x.time(0, 0, 0, 0), -2);
        due.due("pace 5", x.time(0, 0, 5, 0), -2);
        due.due("g -1", x.time(0, 0, 1, -1), -2);
        due.due("g 100", x.time(0, 0, 1, 100), -2);
        due.due("time that is refused changes nothing", Due.seen(x), was);
        due.due("the first", x.time(0, 0, 1, 0), 1);
        due.due("the second", x.time(1, 5, 4, 99), 2);
        due.due("alike", x.time(1, 5, 4, 99), 3);
        due.due("the fourth", x.time(1, 5, 4, 99), 4);
        due.due("the fifth", x.time(1, 5, 4, 99), 5);
        due.due("the sixth", x.time(1, 5, 4, 99), 6);
        was = Due.seen(x);
        due.due("the seventh", x.time(0, 0, 1, 0), -4);
        due.due("BAD ahead of FULL", x.time(0, 0, 1, 100), -2);
        due.due("UNKNOWN ahead of FULL", x.time(2, 0, 1, 0), -1);
        due.due("what is FULL changes nothing", Due.seen(x), was);
        due.due("no act", x.about(10), 0);
        due.due("no saying at all", new LoveGlass().time(0, 0, 1, 0), -1);
    }

    private static void promise25() {
        LoveGlass x = Due.port("EY310Y391");
        due.due("none", x.untime(), 0);
        x.time(1, 3, 2, 9);
        x.time(0, 1, 1, 9);
        due.due("kinds ahead", x.kinds(), 0);
        due.due("two", x.untime(), 2);
        due.due("none any more", x.untime(), 0);
        due.due("about(11)", x.about(11), 0);
        due.due("all kinds again", x.kinds(), 15);
        due.due("one anew", x.time(0, 0, 1, 3), 1);
        due.due("it alone counts", x.kinds(), 9);
    }

    /** The kinds by one that is timed: a filler of 3 letters is saying 0, a name of 3 is saying 1. */
    private static void kindsBy(int saying, int place, int pace, int g, int kinds) {
        LoveGlass x = Due.port("EG11S40Y310Y391");
        x.time(saying, place, pace, g);
        due.due("kinds by time(" + saying + ", " + place + ", " + pace + ", " + g + ")", x.kinds(), kinds);
    }

    private static void promise26() {
        due.due("nothing is timed", new LoveGlass().kinds(), 15);
        kindsBy(0, 0, 1, 3, 9);
        kindsBy(0, 0, 1, 1, 2);
        kindsBy(0, 0, 1, 6, 4);
        kindsBy(0, 1, 1, 3, 5);
        kindsBy(0, 1, 1, 4, 8);
        kindsBy(0, 1, 1, 1, 2);
        kindsBy(0, 5, 3, 14, 8);
        kindsBy(0, 5, 3, 9, 5);
        kindsBy(0, 5, 3, 4, 2);
        kindsBy(1, 0, 1, 3, 11);
        kindsBy(1, 1, 2, 6, 7);
        kindsBy(1, 0, 4, 24, 4);
        kindsBy(1, 0, 1, 5, 0);
        kindsBy(1, 5, 4, 12, 7);
        kindsBy(1, 5, 4, 17, 8);
        LoveGlass x = Due.port("EY310Y391");
        x.time(1, 1, 2, 6);
        x.time(0, 0, 1, 6);
        due.due("both are a stammerer's", x.kinds(), 4);
        x.time(1, 0, 1, 3);
        due.due("the third is not", x.kinds(), 0);
        x.time(0, 0, 1, 6);
        Due.tell(x, "EY311");
        x.port();
        due.due("of sayings that are not any more nothing is looked at", x.kinds(), 4);
        Due.tell(x, "EY610");
        x.port();
        due.due("by the port of now", x.kinds(), 9);
        Due.tell(x, "E");
        x.port();
        due.due("no sayings any more", x.kinds(), 15);
        due.due("still timed", x.about(11), 4);
        Due.tell(x, "EY310Y391");
        x.port();
        due.due("there again", x.kinds(), 0);
        String was = Due.seen(x);
        x.kinds();
        due.due("kinds changes nothing", Due.seen(x), was);
    }

    public static void main(String[] args) {
        promise24();
        promise25();
        promise26();
        due.end();
    }
}
