/** Each sentence on a boundary case of what is told of a port: GRAINS, TAKES, promises 6 to 11. */
public final class BoundsPortTest {
    private static final int[] NO_NUMBERS = {Integer.MIN_VALUE, Integer.MIN_VALUE + 1, -256, -9, -2, -1};
    private static final String PORT = "EG20G11G32G13S10S31S22S13Y231Y142Y153Y570Y390";
    private static final String SIX = "EG90S10Y191Y192Y193Y190Y190Y190";
    private static final Due due = new Due();

    private static void aboutWhat() {
        due.under("about: what = 0 .. 12; BAD");
        LoveGlass x = Made.turned(PORT, 0, 0, 0);
        due.due("about(-1)", x.about(-1), -2);
        due.due("about(0)", x.about(0), 4);
        due.due("about(12)", x.about(12), PORT.length());
        due.due("about(13)", x.about(13), -2);
        for (int what : NO_NUMBERS) {
            due.due("about(" + what + ")", x.about(what), -2);
        }
        due.due("about(256)", x.about(256), -2);
        due.due("about(MAX)", x.about(Integer.MAX_VALUE), -2);
        due.due("about(13) of a new object", new LoveGlass().about(13), -2);
    }

    private static void aboutLeast() {
        due.under("about: the GLASS that runs (3; NONE), for whom (4; NONE)");
        LoveGlass x = Made.port(PORT);
        due.due("none runs", x.about(3), -9);
        due.due("for nobody", x.about(4), -9);
        due.due("no GRAINS are left", x.about(5), 0);
        Made.could(x.turn(0, 0), "turn");
        due.due("GLASS 0 is not NONE", x.about(3), 0);
        due.due("SUITOR 0 is not NONE", x.about(4), 0);
        Made.could(x.turn(3, 2), "turn");
        due.due("the last GLASS", x.about(3), 3);
        due.due("for another one", x.about(4), 2);
        Made.left(0, x);
        due.due("it runs with no GRAIN left", x.about(3), 3);
        due.under("about: nothing is SAID");
        due.due("how many", x.about(6), 0);
        due.due("which", x.about(7), 0);
        due.due("WARMTH", x.about(8), 0);
        due.due("a DECLARATION", x.about(9), 0);
    }

    private static void aboutMost() {
        due.under("about: all that there can be at most");
        LoveGlass x = Made.port("EG92G10G10G10S10S10S10S10Y191Y192Y193Y190Y190Y190");
        for (int i = 0; i < 6; i++) {
            Made.could(x.time(0, 0, 1, 1), "time");
        }
        for (int i = 0; i < 20; i++) {
            Made.could(x.turn(0, 3), "turn");
        }
        due.due("GRAINS of the largest GLASS", x.about(5), 135);
        for (int saying = 0; saying < 6; saying++) {
            Made.could(x.say(saying), "say");
        }
        while (x.about(12) < 56) {
            Made.could(x.write('E'), "write");
        }
        int[] all = {4, 4, 6, 0, 3, 129, 6, 63, 54, 1, 14, 6, 56};
        for (int what = 0; what < all.length; what++) {
            due.due("about(" + what + ")", x.about(what), all[what]);
        }
    }

    private static void declarationIs(String sorts, int declaration) {
        StringBuilder port = new StringBuilder("EG90S10");
        int[] row = new int[sorts.length()];
        for (int i = 0; i < sorts.length(); i++) {
            port.append("Y11").append(sorts.charAt(i));
            row[i] = i;
        }
        LoveGlass x = Made.turned(port.toString(), 0, 0, row);
        due.due("about(9), said " + sorts, x.about(9), declaration);
        due.due("about(8), said " + sorts, x.about(8), sorts.length());
    }

    private static void declarations() {
        due.under("A DECLARATION is, if there is a NAME, a VOW behind it, and an ASK behind that");
        declarationIs("", 0);
        declarationIs("1", 0);
        declarationIs("12", 0);
        declarationIs("123", 1);
        declarationIs("132", 0);
        declarationIs("213", 0);
        declarationIs("231", 0);
        declarationIs("312", 0);
        declarationIs("321", 0);
        declarationIs("23", 0);
        declarationIs("13", 0);
        declarationIs("333", 0);
        declarationIs("112", 0);
        declarationIs("2313", 0);
        declarationIs("3132", 0);
        declarationIs("21312", 0);
        due.under("A DECLARATION: others wherever they are");
        declarationIs("0123", 1);
        declarationIs("1023", 1);
        declarationIs("1203", 1);
        declarationIs("1230", 1);
        declarationIs("010203", 1);
        declarationIs("321323", 1);
        declarationIs("112233", 1);
        declarationIs("132213", 1);
        declarationIs("213213", 1);
        declarationIs("131213", 1);
        due.under("Its WARMTH is that of all SAYINGS SAID");
        LoveGlass x = Made.turned("EG90S10Y101Y192Y113Y150Y170", 0, 0, 3, 0, 1, 2);
        due.due("about(8)", x.about(8), 15);
        Made.could(x.say(4), "say");
        due.due("about(8), one more", x.about(8), 22);
    }

    private static void glassWhat() {
        due.under("glass: UNKNOWN");
        LoveGlass x = Made.port("EG20G31");
        due.due("glass(-1, 0)", x.glass(-1, 0), -1);
        due.due("glass(0, 0)", x.glass(0, 0), 2);
        due.due("glass(1, 0)", x.glass(1, 0), 3);
        due.due("glass(2, 0)", x.glass(2, 0), -1);
        LoveGlass four = Made.port(PORT);
        due.due("glass(3, 0)", four.glass(3, 0), 1);
        due.due("glass(4, 0)", four.glass(4, 0), -1);
        for (int glass : NO_NUMBERS) {
            due.due("glass(" + glass + ", 0)", four.glass(glass, 0), -1);
        }
        due.due("glass(MAX, 0)", four.glass(Integer.MAX_VALUE, 0), -1);
        due.under("glass: what = 0 .. 2; BAD");
        due.due("glass(1, -1)", x.glass(1, -1), -2);
        due.due("glass(1, 1)", x.glass(1, 1), 1);
        due.due("glass(1, 2)", x.glass(1, 2), 30);
        due.due("glass(1, 3)", x.glass(1, 3), -2);
        for (int what : NO_NUMBERS) {
            due.due("glass(0, " + what + ")", x.glass(0, what), -2);
        }
        due.under("glass: UNKNOWN is told ahead of BAD");
        due.due("glass(2, 3)", x.glass(2, 3), -1);
        due.due("glass(-1, -1)", x.glass(-1, -1), -1);
        due.due("glass(0, 3) of a new object", new LoveGlass().glass(0, 3), -1);
    }

    private static void grains() {
        due.under("GRAINS in a GLASS: 10 times its SAND; RED: half as much again");
        for (int sand = 1; sand <= 9; sand++) {
            for (int kind = 0; kind <= 3; kind++) {
                LoveGlass x = Made.port("EG" + sand + kind + "S10");
                due.due("GRAINS of G" + sand + kind, x.glass(0, 2), kind == 2 ? 15 * sand : 10 * sand);
                due.due("turn of G" + sand + kind, x.turn(0, 0), kind == 2 ? 15 * sand : 10 * sand);
            }
        }
        due.under("glass: GRAINS are those of a full GLASS, though it runs");
        due.due("glass(0, 2)", Made.left(3, Made.turned(PORT, 0, 0)).glass(0, 2), 20);
    }

    private static void suitorWhat() {
        due.under("suitor: UNKNOWN");
        LoveGlass x = Made.port("ES21S43");
        due.due("suitor(-1, 0)", x.suitor(-1, 0), -1);
        due.due("suitor(0, 0)", x.suitor(0, 0), 2);
        due.due("suitor(1, 0)", x.suitor(1, 0), 4);
        due.due("suitor(2, 0)", x.suitor(2, 0), -1);
        LoveGlass four = Made.port(PORT);
        due.due("suitor(3, 1)", four.suitor(3, 1), 3);
        due.due("suitor(4, 1)", four.suitor(4, 1), -1);
        for (int suitor : NO_NUMBERS) {
            due.due("suitor(" + suitor + ", 0)", four.suitor(suitor, 0), -1);
        }
        due.due("suitor(MAX, 0)", four.suitor(Integer.MAX_VALUE, 0), -1);
        due.under("suitor: what = 0 .. 1; BAD");
        due.due("suitor(0, -1)", x.suitor(0, -1), -2);
        due.due("suitor(0, 1)", x.suitor(0, 1), 1);
        due.due("suitor(0, 2)", x.suitor(0, 2), -2);
        for (int what : NO_NUMBERS) {
            due.due("suitor(0, " + what + ")", x.suitor(0, what), -2);
        }
        due.under("suitor: UNKNOWN is told ahead of BAD");
        due.due("suitor(2, 2)", x.suitor(2, 2), -1);
        due.due("suitor(-1, -1)", x.suitor(-1, -1), -1);
    }

    private static void sayingWhat() {
        due.under("saying: UNKNOWN");
        LoveGlass x = Made.port("EG20S10Y231Y142");
        due.due("saying(-1, 0)", x.saying(-1, 0), -1);
        due.due("saying(0, 0)", x.saying(0, 0), 2);
        due.due("saying(1, 0)", x.saying(1, 0), 1);
        due.due("saying(2, 0)", x.saying(2, 0), -1);
        LoveGlass six = Made.port(SIX);
        due.due("saying(5, 1)", six.saying(5, 1), 9);
        due.due("saying(6, 1)", six.saying(6, 1), -1);
        for (int saying : NO_NUMBERS) {
            due.due("saying(" + saying + ", 0)", six.saying(saying, 0), -1);
        }
        due.due("saying(MAX, 0)", six.saying(Integer.MAX_VALUE, 0), -1);
        due.under("saying: what = 0 .. 3; BAD");
        due.due("saying(0, -1)", x.saying(0, -1), -2);
        due.due("saying(0, 1)", x.saying(0, 1), 3);
        due.due("saying(0, 2)", x.saying(0, 2), 1);
        due.due("saying(0, 4)", x.saying(0, 4), -2);
        for (int what : NO_NUMBERS) {
            due.due("saying(0, " + what + ")", x.saying(0, what), -2);
        }
        due.under("saying: UNKNOWN is told ahead of BAD, and of NONE");
        due.due("saying(2, 4)", x.saying(2, 4), -1);
        due.due("saying(-1, -1)", x.saying(-1, -1), -1);
        due.due("saying(2, 3), no GLASS runs", x.saying(2, 3), -1);
    }

    private static void sayingNow() {
        due.under("saying: what it TAKES now (NONE: no GLASS runs)");
        LoveGlass x = Made.port(PORT);
        due.due("no GLASS was turned", x.saying(0, 3), -9);
        Made.could(x.turn(0, 0), "turn");
        due.due("one is", x.saying(0, 3), 2);
        Made.could(x.undo(), "undo");
        due.due("that is undone", x.saying(0, 3), -9);
        due.under("saying: what it TAKES now (NONE: it is SAID)");
        x = Made.turned(PORT, 0, 0, 0);
        due.due("it is SAID", x.saying(0, 3), -9);
        due.due("another one is not", x.saying(1, 3), 1);
        Made.could(x.undo(), "undo");
        due.due("that is undone", x.saying(0, 3), 2);
        x = Made.turned(PORT, 0, 0, 0);
        Made.could(x.turn(0, 0), "turn");
        due.due("turned anew", x.saying(0, 3), 2);
        due.under("saying: what it TAKES now, be it more than is left");
        x = Made.left(0, Made.turned(PORT, 0, 0));
        due.due("2 of none", x.saying(0, 3), 2);
        due.under("saying: what it TAKES now, be it nothing");
        due.due("a POET's FILLER of one LETTER", Made.turned("EG10S11Y100", 0, 0).saying(0, 3), 0);
        due.under("saying: what it TAKES now, as the next one, in this GLASS");
        x = Made.turned("EG91S22S13Y131Y131Y130", 0, 0);
        due.due("the stammerer's first", x.saying(2, 3), 6);
        Made.could(x.say(0), "say");
        due.due("the stammerer's second", x.saying(2, 3), 4);
        Made.could(x.turn(0, 1), "turn");
        due.due("the fisherman's first", x.saying(2, 3), 3);
        Made.could(x.say(0), "say");
        Made.could(x.say(1), "say");
        due.due("the fisherman's third", x.saying(2, 3), 5);
    }

    private static void saidPlace() {
        due.under("said: UNKNOWN: place");
        LoveGlass x = Made.port(SIX);
        due.due("no GLASS runs: said(0)", x.said(0), -1);
        Made.could(x.turn(0, 0), "turn");
        due.due("nothing is SAID: said(0)", x.said(0), -1);
        for (int i = 0; i < 6; i++) {
            Made.could(x.say(5 - i), "say");
            due.due("said(-1)", x.said(-1), -1);
            due.due("the first", x.said(0), 5);
            due.due("the last, said(" + i + ")", x.said(i), 5 - i);
            due.due("one behind it, said(" + (i + 1) + ")", x.said(i + 1), -1);
        }
        for (int place : NO_NUMBERS) {
            due.due("said(" + place + ")", x.said(place), -1);
        }
        due.due("said(MAX)", x.said(Integer.MAX_VALUE), -1);
        Made.could(x.undo(), "undo");
        due.due("the last one is undone", x.said(5), -1);
        due.due("the one ahead of it is there", x.said(4), 1);
    }

    private static void takesUnknown() {
        due.under("takes: UNKNOWN: saying, suitor, glass");
        LoveGlass x = Made.port("EG20G10S10S20Y231Y142Y113");
        due.due("the last of all", x.takes(2, 1, 1, 0), 2);
        due.due("saying 3", x.takes(3, 1, 1, 0), -1);
        due.due("suitor 2", x.takes(2, 2, 1, 0), -1);
        due.due("glass 2", x.takes(2, 1, 2, 0), -1);
        due.due("saying -1", x.takes(-1, 0, 0, 0), -1);
        due.due("suitor -1", x.takes(0, -1, 0, 0), -1);
        due.due("glass -1", x.takes(0, 0, -1, 0), -1);
        for (int none : NO_NUMBERS) {
            due.due("saying " + none, x.takes(none, 0, 0, 0), -1);
            due.due("suitor " + none, x.takes(0, none, 0, 0), -1);
            due.due("glass " + none, x.takes(0, 0, none, 0), -1);
        }
        due.under("takes: BAD: place (0 .. 5)");
        due.due("place -1", x.takes(0, 0, 0, -1), -2);
        due.due("place 0", x.takes(0, 0, 0, 0), 2);
        due.due("place 5", x.takes(0, 0, 0, 5), 2);
        due.due("place 6", x.takes(0, 0, 0, 6), -2);
        for (int place : NO_NUMBERS) {
            due.due("place " + place, x.takes(0, 0, 0, place), -2);
        }
        due.due("place MAX", x.takes(0, 0, 0, Integer.MAX_VALUE), -2);
        due.under("takes: UNKNOWN is told ahead of BAD");
        due.due("saying 3, place 6", x.takes(3, 0, 0, 6), -1);
        due.due("suitor 2, place 6", x.takes(0, 2, 0, 6), -1);
        due.due("glass 2, place -1", x.takes(0, 0, 2, -1), -1);
        due.due("saying -1, place -1", x.takes(-1, 0, 0, -1), -1);
    }

    /** What is taken by a suitor of a pace and kind, in a glass of a kind, of so many letters and a sort, as the i-th. */
    private static void takesAre(String where, String suitor, int glassKind, String letters, int sort, int i, int want) {
        LoveGlass x = Made.port("EG1" + glassKind + "S" + suitor + "Y" + letters + "0" + sort);
        due.due(where, x.takes(0, 0, 0, i), want);
    }

    private static void takes() {
        due.under("TAKES: LETTERS times PACE");
        takesAre("the fewest", "10", 0, "1", 1, 0, 1);
        takesAre("the most", "40", 0, "9", 1, 5, 36);
        due.under("TAKES: POET: a FILLER half of it (cut)");
        takesAre("half of 1", "11", 0, "1", 0, 0, 0);
        takesAre("half of 2", "11", 0, "2", 0, 0, 1);
        takesAre("half of 3", "11", 0, "3", 0, 0, 1);
        takesAre("half of 3 times 3", "31", 0, "3", 0, 1, 4);
        takesAre("half of 36", "41", 0, "9", 0, 5, 18);
        for (int sort = 1; sort <= 3; sort++) {
            takesAre("a POET's SORT " + sort, "11", 0, "3", sort, 0, 3);
        }
        takesAre("another one's FILLER", "10", 0, "3", 0, 0, 3);
        due.under("TAKES: STAMMERER: the first one (i is 0) twice");
        takesAre("i is 0", "12", 0, "3", 1, 0, 6);
        takesAre("i is 1", "12", 0, "3", 1, 1, 3);
        takesAre("i is 5", "12", 0, "3", 1, 5, 3);
        takesAre("a FILLER too", "12", 0, "3", 0, 0, 6);
        takesAre("the most of all", "42", 1, "9", 1, 0, 74);
        due.under("TAKES: FISHERMAN: i more");
        for (int i = 0; i <= 5; i++) {
            takesAre("i is " + i, "23", 0, "3", 1, i, 6 + i);
        }
        due.under("TAKES: in a CRACKED GLASS 2 more, that is neither halved nor doubled");
        takesAre("plain", "10", 1, "1", 1, 0, 3);
        takesAre("a POET's FILLER of 1", "11", 1, "1", 0, 0, 2);
        takesAre("a POET's FILLER of 3", "11", 1, "3", 0, 0, 3);
        takesAre("a STAMMERER's first", "12", 1, "1", 1, 0, 4);
        takesAre("a STAMMERER's second", "12", 1, "1", 1, 1, 3);
        takesAre("a FISHERMAN's last", "13", 1, "1", 1, 5, 8);
        due.under("TAKES: in another GLASS than a CRACKED one no more");
        takesAre("RED", "10", 2, "1", 1, 0, 1);
        takesAre("HERS", "10", 3, "1", 1, 0, 1);
        due.under("takes: nothing hangs on what runs, what is SAID or left");
        LoveGlass x = Made.left(0, Made.turned("EG20G11S12S10Y231Y142Y153", 0, 0, 0, 1, 2));
        due.due("a STAMMERER's first", x.takes(0, 0, 0, 0), 4);
        due.due("in the other GLASS by the other one", x.takes(0, 1, 1, 3), 4);
        everyTakes();
    }

    private static void everyTakes() {
        due.under("TAKES: each KIND, PACE, SORT, place");
        for (int kind = 0; kind < 4; kind++) {
            for (int pace = 1; pace <= 4; pace++) {
                LoveGlass x = Made.port("EG10G11G12G13S" + pace + kind + "Y500Y501Y502Y503Y700Y903");
                for (int i = 0; i < 6; i++) {
                    for (int saying = 0; saying < 6; saying++) {
                        int want = (saying < 4 ? 5 : saying == 4 ? 7 : 9) * pace;
                        boolean filler = saying == 0 || saying == 4;
                        want = kind == 1 && filler ? want / 2 : kind == 2 && i == 0 ? 2 * want : kind == 3 ? want + i : want;
                        String call = "S" + pace + kind + ": takes(" + saying + ", 0, .., " + i + ")";
                        due.due(call + ", PLAIN", x.takes(saying, 0, 0, i), want);
                        due.due(call + ", CRACKED", x.takes(saying, 0, 1, i), want + 2);
                        due.due(call + ", RED", x.takes(saying, 0, 2, i), want);
                        due.due(call + ", HERS", x.takes(saying, 0, 3, i), want);
                    }
                }
            }
        }
    }

    public static void main(String[] args) {
        aboutWhat();
        aboutLeast();
        aboutMost();
        declarations();
        glassWhat();
        grains();
        suitorWhat();
        sayingWhat();
        sayingNow();
        saidPlace();
        takesUnknown();
        takes();
        due.end();
    }
}
