/** Each sentence on a boundary case of THE TEXT, the FAULT and THE PORT: the document's part 1, promises 1 to 5. */
public final class BoundsTextTest {
    /** The longest port that there is: 49 bytes. */
    private static final String LONGEST = "EG10G10G10G10S10S10S10S10Y100Y100Y100Y100Y100Y100";
    private static final String PORT = "EG20G11G32G13S10S31S22S13Y231Y142Y153Y570Y390";
    private static final Due due = new Due();

    private static void faultIs(String text, int fault) {
        LoveGlass x = Due.told(text);
        due.due("fault() of " + text, x.fault(), fault);
        due.due("port() of " + text + " is refused", x.port() == LoveGlass.LATE ? 1 : 0, fault == LoveGlass.NONE ? 0 : 1);
    }

    private static void newObject() {
        due.under("LoveGlass(): No glasses, nobody. At first there is nothing");
        LoveGlass x = new LoveGlass();
        int[] all = {0, 0, 0, -9, -9, 0, 0, 0, 0, 0, 0, 0, 0};
        for (int what = 0; what < all.length; what++) {
            due.due("about(" + what + ")", x.about(what), all[what]);
        }
        due.due("glass(0, 0)", x.glass(0, 0), -1);
        due.due("suitor(0, 0)", x.suitor(0, 0), -1);
        due.due("saying(0, 0)", x.saying(0, 0), -1);
        due.due("said(0)", x.said(0), -1);
        due.due("takes(0, 0, 0, 0)", x.takes(0, 0, 0, 0), -1);
        due.due("undo()", x.undo(), -3);
        due.due("untime()", x.untime(), 0);
        due.due("again(0)", x.again(0), -3);
        due.due("again(1)", x.again(1), -3);
        due.due("seed(7)", x.seed(7), 0);
        due.due("wipe()", x.wipe(), 0);
        due.under("two objects have nothing in common");
        LoveGlass other = new LoveGlass();
        due.due("the other's seed", other.seed(0), 0);
        Made.anew(x, PORT);
        due.due("the other's text", other.about(12), 0);
        due.due("the other's glasses", other.about(0), 0);
    }

    private static void bytes() {
        due.under("write: a byte (0 .. 255)");
        LoveGlass x = new LoveGlass();
        due.due("write(-1)", x.write(-1), -2);
        due.due("write(256)", x.write(256), -2);
        due.due("write(0)", x.write(0), 1);
        due.due("write(255)", x.write(255), 2);
        for (int letter = 0; letter <= 255; letter++) {
            due.due("write(" + letter + ")", new LoveGlass().write(letter), 1);
        }
        due.under("write: what is no byte is not cut to one");
        x = new LoveGlass();
        int[] wrong = {'E' + 256, 'E' - 256, 'E' + 65536, -'E', Integer.MIN_VALUE + 'E', Integer.MIN_VALUE, Integer.MAX_VALUE};
        for (int letter : wrong) {
            due.due("write(" + letter + ")", x.write(letter), -2);
        }
        due.due("no byte came", x.about(12), 0);
        due.due("none is left to wipe", x.wipe(), 0);
        due.under("write: BAD changes nothing");
        x = Due.told("EG1");
        for (int letter : new int[] {-1, 256}) {
            due.due("write(" + letter + ")", x.write(letter), -2);
        }
        due.due("about(12)", x.about(12), 3);
        due.due("write('0') behind it", x.write('0'), 4);
        due.due("port()", x.port(), 100);
    }

    private static void fullText() {
        due.under("THE TEXT is bytes (56 at most); write: how long it is");
        LoveGlass x = new LoveGlass();
        for (int i = 1; i <= 56; i++) {
            due.due("the " + i + "-th byte", x.write('E'), i);
        }
        due.due("about(12)", x.about(12), 56);
        due.under("write: FULL: there are 56");
        due.due("the 57th byte", x.write('E'), -4);
        due.due("once more", x.write(0), -4);
        due.under("write: BAD is told ahead of FULL");
        due.due("write(256)", x.write(256), -2);
        due.due("write(-1)", x.write(-1), -2);
        due.under("write: FULL changes nothing");
        due.due("about(12)", x.about(12), 56);
        x = Due.told(LONGEST + "EEEEEEE");
        due.due("the 57th byte", x.write('X'), -4);
        due.due("fault() stays at the first E too much", x.fault(), 49);
        due.due("wipe()", x.wipe(), 56);
        due.under("write: it is not FULL any more behind wipe");
        due.due("write('E')", x.write('E'), 1);
        due.due("port()", x.port(), 0);
        due.under("write and wipe leave THE PORT and what runs");
        x = Made.turned(PORT, 0, 0, 0);
        x.write('X');
        due.due("a byte more: glasses", x.about(0), 4);
        due.due("a byte more: grains", x.about(5), 18);
        x.wipe();
        due.due("no byte: glasses", x.about(0), 4);
        due.due("no byte: grains", x.about(5), 18);
        due.due("no byte: acts", x.about(10), 2);
    }

    private static void wiped() {
        due.under("wipe: THE TEXT is empty: how long it was");
        LoveGlass x = new LoveGlass();
        due.due("of none", x.wipe(), 0);
        x.write('E');
        due.due("of one", x.wipe(), 1);
        due.due("of none again", x.wipe(), 0);
        due.due("about(12)", x.about(12), 0);
        due.due("fault() of the empty text", x.fault(), 0);
        for (int i = 0; i < 56; i++) {
            x.write('E');
        }
        due.due("of 56", x.wipe(), 56);
        due.due("the next byte is the first one", x.write('E'), 1);
        due.due("fault() of E", x.fault(), -9);
    }

    private static void faults() {
        due.under("FAULT: its length, if it is only not at its end");
        String[] short0 = {"", "EG", "EG1", "ES", "ES1", "EY", "EY1", "EY10", "EG10G", "EG10G1", "EG10S4", "EY993Y99", "EG93S43Y"};
        for (String text : short0) {
            faultIs(text, text.length());
        }
        due.under("FAULT: NONE: none");
        String[] ports = {"E", "EG10", "ES10", "EY100", "EG93S43Y993", "EY100S10G10", LONGEST};
        for (String text : ports) {
            faultIs(text, -9);
        }
        due.under("FAULT: the first byte, by which it can be no PORT, whatever came behind it");
        faultIs("X", 0);
        faultIs("XX", 0);
        faultIs("EX", 1);
        faultIs("EXG0", 1);
        faultIs("EG0", 2);
        faultIs("EG00", 2);
        faultIs("EG0X", 2);
        faultIs("EG14X", 3);
        faultIs("EY994Y", 4);
        faultIs("EG10X", 4);
        faultIs("EG10S50", 5);
        faultIs("EG10 ", 4);
        due.under("FAULT: THE TEXT's length set aside");
        faultIs(LONGEST + "G", 49);
        faultIs(LONGEST + "X", 49);
        faultIs(LONGEST + "EEEEEEE", 49);
        faultIs("X" + LONGEST + "EEEEEE", 0);
        faultIs("EX" + LONGEST + "EEEEE", 1);
        due.under("fault changes nothing");
        LoveGlass x = faultyIn(Made.turned(PORT, 0, 0, 0));
        due.due("fault()", x.fault(), 3);
        due.due("what later calls show", Later.shows(x), Later.shows(faultyIn(Made.turned(PORT, 0, 0, 0))));
    }

    /** An object's text becomes one with a fault. */
    private static LoveGlass faultyIn(LoveGlass x) {
        Due.tell(x, "EG1");
        return x;
    }

    /** The byte behind a text is one of lowest to highest, or it is the fault; with the rest behind it it is a port. */
    private static void everyByte(String ahead, String rest, char lowest, char highest) {
        for (char letter = 0; letter <= 255; letter++) {
            boolean may = letter >= lowest && letter <= highest;
            LoveGlass x = Due.told(ahead + letter + rest);
            due.due("fault() of " + ahead + ", the byte " + (int) letter + ", " + rest, x.fault(), may ? -9 : ahead.length());
        }
    }

    private static void everyPartLetter(String ahead) {
        for (char letter = 0; letter <= 255; letter++) {
            boolean may = letter == 'G' || letter == 'S' || letter == 'Y';
            LoveGlass x = Due.told(ahead + letter);
            due.due("fault() of " + ahead + ", the byte " + (int) letter, x.fault(), may ? ahead.length() + 1 : ahead.length());
        }
    }

    private static void parts() {
        due.under("A PORT is a TEXT: E, then PARTS");
        everyByte("", "", 'E', 'E');
        everyByte("", "G10S10Y100", 'E', 'E');
        due.under("PARTS: G, S, Y");
        everyPartLetter("E");
        everyPartLetter("EG10");
        everyPartLetter("ES10");
        everyPartLetter("EY100");
        due.under("PARTS, none or more");
        due.due("E", Due.told("E").port(), 0);
        due.due("EG10", Due.told("EG10").port(), 100);
        due.due("ES10", Due.told("ES10").port(), 10);
        due.due("EY100", Due.told("EY100").port(), 1);
        due.under("Gsk: SAND s (1 .. 9)");
        everyByte("EG", "0", '1', '9');
        everyByte("EY100G", "3", '1', '9');
        due.under("Gsk: KIND k (0 .. 3)");
        everyByte("EG1", "", '0', '3');
        everyByte("EG9", "S10", '0', '3');
        due.under("Spk: PACE p (1 .. 4)");
        everyByte("ES", "0", '1', '4');
        everyByte("EG10S", "3", '1', '4');
        due.under("Spk: KIND k (0 .. 3)");
        everyByte("ES1", "", '0', '3');
        everyByte("ES4", "Y100", '0', '3');
        due.under("Ylvt: l LETTERS (1 .. 9)");
        everyByte("EY", "00", '1', '9');
        everyByte("ES10Y", "93", '1', '9');
        due.under("Ylvt: WARMTH v (0 .. 9)");
        everyByte("EY1", "0", '0', '9');
        everyByte("EY9", "3", '0', '9');
        due.under("Ylvt: SORT t (0 .. 3)");
        everyByte("EY10", "", '0', '3');
        everyByte("EY99", "G10", '0', '3');
    }

    private static void mostParts() {
        due.under("GLASSES (4 at most)");
        faultIs("EG10G10G10G10", -9);
        faultIs("EG10G10G10G10G", 13);
        faultIs("EG10G10G10G10G10", 13);
        faultIs("EG10S10G10Y100G10S10G10", -9);
        faultIs("EG10S10G10Y100G10S10G10G", 23);
        faultIs("EG10G10G10G10S10Y100", -9);
        due.due("four", Due.told("EG10G10G10G10").port(), 400);
        due.under("SUITORS (4 at most)");
        faultIs("ES10S10S10S10", -9);
        faultIs("ES10S10S10S10S", 13);
        faultIs("ES10S10S10S10S10", 13);
        faultIs("ES10G10S10Y100S10G10S10", -9);
        faultIs("ES10G10S10Y100S10G10S10S", 23);
        faultIs("ES10S10S10S10G10Y100", -9);
        due.due("four", Due.told("ES10S10S10S10").port(), 40);
        due.under("SAYINGS (6 at most)");
        faultIs("EY100Y100Y100Y100Y100Y100", -9);
        faultIs("EY100Y100Y100Y100Y100Y100Y", 25);
        faultIs("EY100Y100Y100Y100Y100Y100Y100", 25);
        faultIs("EY100Y100G10Y100Y100S10Y100Y100", -9);
        faultIs("EY100Y100G10Y100Y100S10Y100Y100Y", 31);
        faultIs("EY100Y100Y100Y100Y100Y100G10S10", -9);
        due.due("six", Due.told("EY100Y100Y100Y100Y100Y100").port(), 6);
        due.under("what there are at most of all: 100 times GLASSES, 10 times SUITORS, and SAYINGS");
        due.due("the longest port", Due.told(LONGEST).port(), 446);
    }

    private static void numbered() {
        due.under("PARTS: numbered as they are told, each kind for itself");
        LoveGlass x = Made.port("EY471S32G81S13Y982G23Y120S20G50S41G10Y103");
        int[][] glasses = {{8, 1}, {2, 3}, {5, 0}, {1, 0}};
        int[][] suitors = {{3, 2}, {1, 3}, {2, 0}, {4, 1}};
        int[][] sayings = {{4, 7, 1}, {9, 8, 2}, {1, 2, 0}, {1, 0, 3}};
        for (int i = 0; i < 4; i++) {
            for (int what = 0; what < 3; what++) {
                due.due("saying(" + i + ", " + what + ")", x.saying(i, what), sayings[i][what]);
                if (what < 2) {
                    due.due("glass(" + i + ", " + what + ")", x.glass(i, what), glasses[i][what]);
                    due.due("suitor(" + i + ", " + what + ")", x.suitor(i, what), suitors[i][what]);
                }
            }
        }
        due.under("each figure is told as it stands, from its least to its highest");
        for (int a = 1; a <= 9; a++) {
            for (int k = 0; k <= 3; k++) {
                int pace = 1 + (a - 1) % 4;
                x = Made.port("EG" + a + k + "S" + pace + k + "Y" + a + (9 - a) + k);
                due.due("SAND", x.glass(0, 0), a);
                due.due("KIND of a GLASS", x.glass(0, 1), k);
                due.due("PACE", x.suitor(0, 0), pace);
                due.due("KIND of a SUITOR", x.suitor(0, 1), k);
                due.due("LETTERS", x.saying(0, 0), a);
                due.due("WARMTH", x.saying(0, 1), 9 - a);
                due.due("SORT", x.saying(0, 2), k);
            }
        }
        due.due("WARMTH 9", Made.port("EY190").saying(0, 1), 9);
    }

    /** An object in which all is other than at first: a run with acts, slots, what is timed, a seed. */
    private static LoveGlass lived() {
        LoveGlass x = Made.turned(PORT, 2, 3, 3, 0);
        Made.could(x.keep(0), "keep");
        Made.could(x.pause(), "pause");
        Made.could(x.keep(1), "keep");
        Made.could(x.time(0, 0, 1, 2), "time");
        Made.could(x.time(4, 5, 1, 8), "time");
        x.seed(-77);
        return x;
    }

    private static void portIsLate() {
        due.under("port: LATE: a FAULT; that changes nothing");
        String[] texts = {"", "X", "EG", "EG1", "EG14", "EG10G10G10G10G10", "EY10", "EX", LONGEST + "E"};
        for (String text : texts) {
            LoveGlass x = lived();
            LoveGlass y = lived();
            Due.tell(x, text);
            Due.tell(y, text);
            due.due("port() of " + text, x.port(), -3);
            due.due("what later calls show", Later.shows(x), Later.shows(y));
        }
        due.due("port() of a new object", new LoveGlass().port(), -3);
    }

    private static void portAnew() {
        due.under("port: THE TEXT is THE PORT (THE TEXT itself stays)");
        LoveGlass x = Due.told("EG10Y100");
        due.due("port()", x.port(), 101);
        due.due("about(12)", x.about(12), 8);
        due.due("port() again", x.port(), 101);
        due.due("a byte behind it", x.write('S'), 9);
        due.due("THE PORT is as it was", x.about(1), 0);
        due.under("port: no ACTS; no GLASS is turned, nothing is SAID");
        x = lived();
        Due.tell(x, "EY211S13G12");
        due.due("port()", x.port(), 111);
        int[] all = {1, 1, 1, -9, -9, 0, 0, 0, 0, 0, 0, 2, 11};
        for (int what = 0; what < all.length; what++) {
            due.due("about(" + what + ")", x.about(what), all[what]);
        }
        due.due("said(0)", x.said(0), -1);
        due.due("undo()", x.undo(), -3);
        due.due("pause()", x.pause(), -3);
        due.under("port: what was kept is gone");
        due.due("again(0)", x.again(0), -3);
        due.due("again(1)", x.again(1), -3);
        due.under("port: TIMED, THE SEED stay");
        due.due("untime()", x.untime(), 2);
        due.due("seed(0)", x.seed(0), -77);
        due.under("port: what there is no more is UNKNOWN");
        due.due("glass(1, 0)", x.glass(1, 0), -1);
        due.due("suitor(1, 0)", x.suitor(1, 0), -1);
        due.due("saying(1, 0)", x.saying(1, 0), -1);
        due.under("port: the same TEXT once more makes THE PORT anew as well");
        x = lived();
        due.due("port()", x.port(), 445);
        due.due("no GLASS is turned", x.about(3), -9);
        due.due("no ACTS", x.undo(), -3);
        due.due("what was kept is gone", x.again(0), -3);
        due.under("port: nothing is left of a PORT, nor of a TEXT with a FAULT, that was told before");
        for (int k = 0; k < 4; k++) {
            Made.anew(x, "EG" + (k + 1) + k + "S" + (4 - k) + (3 - k) + "Y" + (9 - k) + (k + 5) + k);
            due.due("SAND", x.glass(0, 0), k + 1);
            due.due("KIND of the GLASS", x.glass(0, 1), k);
            due.due("PACE", x.suitor(0, 0), 4 - k);
            due.due("KIND of the SUITOR", x.suitor(0, 1), 3 - k);
            due.due("LETTERS", x.saying(0, 0), 9 - k);
            due.due("WARMTH", x.saying(0, 1), k + 5);
            due.due("SORT", x.saying(0, 2), k);
            Due.tell(x, "EG73S32Y321G4");
            due.due("port() of a TEXT with a FAULT", x.port(), -3);
            due.due("fault() of it", x.fault(), 13);
        }
        due.under("port: E alone: nothing is left");
        Due.tell(x, "E");
        due.due("port()", x.port(), 0);
        due.due("glass(0, 0)", x.glass(0, 0), -1);
        due.due("suitor(0, 0)", x.suitor(0, 0), -1);
        due.due("saying(0, 0)", x.saying(0, 0), -1);
    }

    public static void main(String[] args) {
        newObject();
        bytes();
        fullText();
        wiped();
        faults();
        parts();
        mostParts();
        numbered();
        portIsLate();
        portAnew();
        due.end();
    }
}
