/** Promises 27 to 30: rests and chances. */
public final class ChancesTest {
    /** Glasses of 20, 10 (cracked), 45 (red), 10 (hers); a plain suitor, a poet, a stammerer, a fisherman. */
    private static final String PORT = "EG20G11G32G13S10S21S22S13Y231Y142Y153Y470Y390";
    private static final Due due = new Due();

    private static void restsAre(String where, LoveGlass x, int one, int other, int many, int first) {
        String was = Due.run(x);
        due.due(where + ": rests(" + one + ", " + other + ", 0)", x.rests(one, other, 0), many);
        due.due(where + ": rests(" + one + ", " + other + ", 1)", x.rests(one, other, 1), first);
        due.due(where + ": rests changes nothing", Due.run(x), was);
    }

    private static void promise27() {
        LoveGlass x = Due.port(PORT);
        due.due("no glass runs", x.rests(0, 1, 0), -3);
        due.due("no such suitor", x.rests(4, 4, 9), -1);
        due.due("no such other", x.rests(0, 4, 0), -1);
        due.due("rests(-1, ..)", x.rests(-1, 0, 0), -1);
        due.due("rests(0, -1, ..)", x.rests(0, -1, 0), -1);
        due.due("both are one", x.rests(1, 1, 0), -2);
        due.due("what -1", x.rests(0, 1, -1), -2);
        due.due("what 2", x.rests(0, 1, 2), -2);
        x.turn(0, 0);
        due.due("both are one in a run", x.rests(0, 0, 0), -2);
        restsAre("20: both talk", x, 0, 3, 1, 11);
        restsAre("20: the stammerer has too few of 10", x, 0, 2, 1, 10);
        restsAre("20: the other way round", x, 2, 0, 1, 1);
        x.draw(9);
        x.draw(4);
        restsAre("7: one of the two", x, 0, 3, 2, 1);
        restsAre("7: the stammerer waits", x, 0, 2, 1, 10);
        x.say(0);
        due.due("5 are left", x.about(5), 5);
        restsAre("5: what is said does not count", x, 0, 3, 1, 10);
        x.draw(2);
        restsAre("3: both wait", x, 0, 3, 1, 0);
        x.turn(1, 3);
        restsAre("cracked: the one alone can", x, 0, 3, 1, 10);
        x = Due.port("EG20S10S10Y111Y112Y103");
        x.turn(0, 1);
        restsAre("as much by talking as by waiting", x, 0, 1, 4, 0);
        x = Due.port("EG20S10S10Y111Y102Y103");
        x.turn(0, 1);
        restsAre("less by talking", x, 0, 1, 1, 0);
        x = Due.port("EG10S10S10Y291Y212Y213");
        x.turn(0, 1);
        x.draw(1);
        restsAre("half of 9 is 4", x, 1, 0, 2, 1);
        x = Due.port("EG10S10S10Y491Y412Y413Y111Y113Y112");
        x.turn(0, 1);
        x.draw(4);
        restsAre("half of 6 is 3: 3 of warmth, more than 2", x, 1, 0, 1, 11);
        x.draw(1);
        restsAre("half of 5 is 2", x, 1, 0, 2, 1);
    }

    private static void misheardIs(LoveGlass x, int tenths, int above, int below) {
        String was = Due.run(x);
        due.due("misheard(" + tenths + ", true)", x.misheard(tenths, true), above);
        due.due("misheard(" + tenths + ", false)", x.misheard(tenths, false), below);
        due.due("misheard changes nothing", Due.run(x), was);
    }

    private static void promise28() {
        LoveGlass x = Due.port("EG90S10Y111Y111Y112Y110Y113Y112");
        due.due("misheard(-1)", x.misheard(-1, true), -2);
        due.due("misheard(11)", x.misheard(11, false), -2);
        misheardIs(x, 0, 0, 1);
        x.turn(0, 0);
        misheardIs(x, 0, 0, 1);
        x.say(0);
        x.say(2);
        misheardIs(x, 0, 0, 1);
        x.say(4);
        misheardIs(x, 0, 1, 1);
        misheardIs(x, 1, 729, 1000);
        misheardIs(x, 5, 1, 8);
        misheardIs(x, 9, 1, 1000);
        misheardIs(x, 10, 0, 1);
        x.say(3);
        misheardIs(x, 1, 729, 1000);
        x.turn(0, 0);
        x.say(0);
        x.say(1);
        x.say(2);
        x.say(4);
        // One of two names is heard: 3 / 4, or 99 / 100.
        misheardIs(x, 5, 3, 16);
        misheardIs(x, 1, 8019, 10000);
        x.turn(0, 0);
        x.say(0);
        x.say(2);
        x.say(1);
        x.say(5);
        x.say(4);
        // Of name, vow, name, vow the first name and a vow (3 / 8), or not the first name and both last (1 / 8).
        misheardIs(x, 5, 1, 4);
        x.say(3);
        misheardIs(x, 5, 1, 4);
        x.turn(0, 0);
        x.say(2);
        x.say(0);
        x.say(4);
        misheardIs(x, 3, 0, 1);
    }

    private static void promise29() {
        LoveGlass x = new LoveGlass();
        due.due("0 at first", x.seed(-5), 0);
        due.due("less than 0", x.seed(Long.MAX_VALUE), -5);
        due.due("the highest", x.seed(Long.MIN_VALUE), Long.MAX_VALUE);
        due.due("the lowest", x.seed(3), Long.MIN_VALUE);
        x.weeks(1);
        due.due("a week by 3", x.seed(0), 3 * 6364136223846793005L + 1442695040888963407L);
        due.due("no act", x.about(10), 0);
    }

    /** One week's doing behind sayings in glass 0 for suitor 0. */
    private static void weekIs(String where, int[] said, long upper, int often) {
        LoveGlass x = Due.port(PORT);
        x.turn(0, 0);
        for (int saying : said) {
            x.say(saying);
        }
        x.seed(Seeds.beforeUpper(upper));
        String was = Due.seen(x);
        due.due(where, x.weeks(1), often);
        due.due(where + ": the seed", x.seed(Seeds.beforeUpper(upper)), upper << 33);
        due.due(where + ": nothing else is changed", Due.seen(x), was);
    }

    private static void promise30() {
        LoveGlass x = Due.port(PORT);
        String was = Due.seen(x);
        due.due("weeks(0)", x.weeks(0), -2);
        due.due("weeks(31)", x.weeks(31), -2);
        due.due("weeks(-1)", x.weeks(-1), -2);
        due.due("weeks that is refused changes nothing", Due.seen(x), was);
        due.due("30 weeks, nothing said", new LoveGlass().weeks(30), 0);
        weekIs("the ask", new int[] {0, 1}, 18, 1);
        weekIs("the ask, a round of 28 later", new int[] {0, 1}, 18 + 28, 1);
        weekIs("the ask, by the highest bits", new int[] {0, 1}, 18 + 28 * 76695843L, 1);
        weekIs("a filler behind a declaration", new int[] {0, 1, 2}, 19, 1);
        weekIs("the fifth saying", new int[] {0, 1, 2}, 20, 1);
        weekIs("a sixth there is not", new int[] {0, 1, 2}, 21, 0);
        weekIs("it is said", new int[] {0, 1, 2}, 17, 0);
        weekIs("no declaration yet", new int[] {0}, 18, 0);
        weekIs("the vow", new int[] {0}, 17, 0);
        weekIs("drawn from a declaration", new int[] {0, 1, 2}, 22, 0);
        weekIs("6 drawn from a declaration", new int[] {0, 1, 2}, 27, 0);
        weekIs("turned anew", new int[] {0, 1, 2}, 0, 0);
        weekIs("the last pair turned", new int[] {0, 1, 2}, 15, 0);
        drawnInWeek();
        turnedInWeek();
        many();
    }

    /** What is drawn is 1 to 6: an ask that takes as much as is left then can be said, one that takes more can not. */
    private static void drawnInWeek() {
        for (int n = 1; n <= 6; n++) {
            for (int more = 0; more <= 1; more++) {
                LoveGlass x = Due.port("EG10S10Y111Y112Y" + (8 - n + more) + "13");
                x.turn(0, 0);
                x.say(0);
                x.say(1);
                x.seed(Seeds.beforeAll(21 + n, 18));
                due.due(n + " drawn, " + more + " too much", x.weeks(2), 1 - more);
            }
        }
    }

    /** Who is turned for in which glass: the declaration behind it can be said, or not. */
    private static void turnedInWeek() {
        int[] can = {15, 1, 15, 11};
        for (int doing = 0; doing < 16; doing++) {
            LoveGlass x = Due.port(PORT);
            x.seed(Seeds.beforeAll(doing, 16, 17, 18));
            due.due("turned by " + doing, x.weeks(4), can[doing / 4] >> doing % 4 & 1);
            x.turn(0, 0);
            x.say(0);
            x.say(1);
            x.seed(Seeds.beforeAll(doing, 18));
            due.due("nothing is said behind a turn by " + doing, x.weeks(2), 0);
            x = Due.port("EG20S10Y111Y112Y113");
            x.turn(0, 0);
            x.say(0);
            x.say(1);
            x.seed(Seeds.beforeAll(doing, 18));
            due.due("one glass, one suitor, turned by " + doing, x.weeks(2), doing == 0 ? 0 : 1);
        }
    }

    /** Weeks by many seeds, told by the model as well. */
    private static void many() {
        String[] ports = {PORT, "EG90S10Y111Y112Y113Y111Y112Y113", "EG13G11S40S13Y211Y112Y113", "EG11S42S13Y111Y112Y113Y110"};
        for (int seed = 0; seed < 4000; seed++) {
            String port = ports[seed % ports.length];
            LoveGlass x = Due.port(port);
            Model model = new Model();
            for (char letter : port.toCharArray()) {
                model.write(letter);
            }
            model.port();
            x.turn(0, 0);
            model.turn(0, 0);
            if (seed % 3 != 0) {
                due.due("say(0)", x.say(0), model.say(0));
                due.due("say(1)", x.say(1), model.say(1));
            }
            x.seed(seed * 7919L);
            model.seed(seed * 7919L);
            int weeks = 1 + seed % 30;
            due.due("weeks(" + weeks + ") by " + seed * 7919L, x.weeks(weeks), model.weeks(weeks));
            due.due("seed behind it", x.seed(0), model.seed(0));
        }
    }

    public static void main(String[] args) {
        promise27();
        promise28();
        promise29();
        promise30();
        due.end();
    }
}
