/** Promises 17 to 23: declarations. */
public final class DeclarationsTest {
    /** Glasses of 20, 10 (cracked), 45 (red), 10 (hers); a plain suitor, a poet, a stammerer, a fisherman. */
    private static final String PORT = "EG20G11G32G13S10S21S22S13Y231Y142Y153Y470Y390";
    private static final Due due = new Due();

    private static void warmestIs(String where, LoveGlass x, int warmth, int row) {
        String was = Due.run(x);
        due.due(where + ": warmest(false)", x.warmest(false), warmth);
        due.due(where + ": warmest(true)", x.warmest(true), row);
        due.due(where + ": warmest changes nothing", Due.run(x), was);
    }

    private static void shortestIs(String where, LoveGlass x, int grains, int row) {
        String was = Due.run(x);
        due.due(where + ": shortest(false)", x.shortest(false), grains);
        due.due(where + ": shortest(true)", x.shortest(true), row);
        due.due(where + ": shortest changes nothing", Due.run(x), was);
    }

    private static void promise17() {
        LoveGlass x = Due.port(PORT);
        warmestIs("no glass runs", x, -9, -9);
        x.turn(0, 0);
        warmestIs("all", x, 28, 12345);
        x.draw(9);
        warmestIs("all of 11", x, 28, 12345);
        x.draw(1);
        warmestIs("10: without that of 4 letters", x, 21, 1235);
        x.draw(5);
        warmestIs("5: three", x, 12, 123);
        x.draw(2);
        warmestIs("3: none", x, -9, -9);
        x.turn(0, 0);
        x.say(1);
        warmestIs("a vow ahead of the name", x, -9, -9);
        x.turn(0, 0);
        x.say(4);
        x.say(0);
        warmestIs("what is said counts", x, 28, 234);
        x.say(1);
        x.say(2);
        warmestIs("a declaration already", x, 28, 4);
        x.draw(9);
        x.draw(2);
        due.due("two are left", x.about(5), 2);
        warmestIs("nothing more can be said", x, 21, 0);
        x = Due.port("EG10S10Y251Y162Y153Y360Y220Y420");
        x.turn(0, 0);
        warmestIs("of two fillers the warmer", x, 24, 12345);
        x = Due.port("EG10S10Y221Y222Y223Y440Y340Y440");
        x.turn(0, 0);
        warmestIs("of like ones fewest grains", x, 10, 1235);
        x = Due.port("EG10S10Y221Y222Y223Y440Y440");
        x.turn(0, 0);
        warmestIs("of like ones the least", x, 10, 1234);
        x = Due.port("EG10S10Y221Y222Y223Y110Y210Y320");
        x.turn(0, 0);
        x.draw(1);
        warmestIs("of like ones the least is the shorter", x, 8, 1236);
        x = Due.port("EG90S11Y110Y110Y111Y112Y113");
        x.turn(0, 0);
        warmestIs("what takes nothing comes in the least order", x, 5, 12345);
        x = Due.port("EG30S10Y113Y112Y111Y100");
        x.turn(0, 0);
        warmestIs("no warmth, no grain more", x, 3, 321);
        x = Due.port("EG50S12Y911Y112Y113Y110");
        x.turn(0, 0);
        warmestIs("the stammerer has a short one first", x, 4, 4123);
        x.draw(9);
        x.draw(9);
        x.draw(9);
        x.draw(9);
        due.due("14 are left", x.about(5), 14);
        warmestIs("the stammerer has it first of need", x, 4, 4123);
        x.draw(1);
        warmestIs("13 of 13", x, 4, 4123);
        x.draw(1);
        warmestIs("12 do not do", x, -9, -9);
        x = Due.port("EG20S13Y111Y112Y113Y190Y190");
        x.turn(0, 0);
        warmestIs("the fisherman: 1 + 2 + 3 + 4 + 5", x, 21, 12345);
        x.draw(6);
        warmestIs("14: 1 + 2 + 3 + 4", x, 12, 1234);
        x.turn(0, 0);
        x.say(3);
        x.draw(5);
        warmestIs("14 left behind one: 2 + 3 + 4 + 5", x, 21, 1235);
    }

    private static void promise18() {
        LoveGlass x = Due.port(PORT);
        shortestIs("no glass runs", x, -9, -9);
        x.turn(0, 0);
        shortestIs("plain", x, 4, 123);
        x.turn(1, 0);
        shortestIs("cracked: all of 10", x, 10, 123);
        x.draw(1);
        shortestIs("cracked: 9", x, -9, -9);
        x.turn(2, 2);
        shortestIs("the stammerer", x, 12, 123);
        x.turn(2, 3);
        shortestIs("the fisherman", x, 7, 123);
        x.say(4);
        shortestIs("the fisherman's second, third, fourth", x, 10, 123);
        x.say(0);
        shortestIs("two are wanted", x, 1 + 2 + 1 + 3, 23);
        x.say(1);
        x.say(2);
        shortestIs("a declaration already", x, 0, 0);
        x.turn(0, 0);
        x.say(2);
        shortestIs("the ask is said too soon", x, -9, -9);
        x = Due.port("EG90S42Y901Y112Y113Y110Y100");
        x.turn(0, 0);
        shortestIs("a stammerer's filler ahead: 8 + 36 + 4 + 4", x, 52, 4123);
        x = Due.port("EG90S10Y300Y213Y212Y211Y213Y211");
        x.turn(0, 0);
        shortestIs("of like ones the least", x, 6, 432);
        x = Due.port("EG90S11Y100Y101Y112Y113Y110");
        x.turn(0, 0);
        shortestIs("of like ones the least, though a poet's cost none", x, 3, 234);
        x = Due.port("EG10S10Y112Y113");
        x.turn(0, 0);
        shortestIs("no name", x, -9, -9);
        x = Due.port("EG10S10Y991Y112Y113Y211");
        x.turn(0, 0);
        shortestIs("another name", x, 4, 423);
    }

    private static void promise19() {
        LoveGlass x = Due.port(PORT);
        int[] all = {15, 1, 15, 11};
        for (int round = 0; round < 2; round++) {
            for (int glass = 0; glass < 4; glass++) {
                due.due("can(" + glass + ")", x.can(glass), all[glass]);
            }
            x.turn(3, 0);
            x.say(2);
        }
        String was = Due.seen(x);
        x.can(0);
        due.due("can changes nothing", Due.seen(x), was);
        due.due("can(4)", x.can(4), -1);
        due.due("can(-1)", x.can(-1), -1);
        due.due("no suitors", Due.port("EG90Y111Y112Y113").can(0), 0);
        due.due("no sayings", Due.port("EG90S10").can(0), 0);
        due.due("no ask", Due.port("EG90S10Y111Y112").can(0), 0);
        due.due("a filler ahead helps the stammerer", Due.port("EG10S12Y501Y112Y113Y110").can(0), 1);
        due.due("without it he can not", Due.port("EG10S12Y501Y112Y113").can(0), 0);
        due.due("the half of a filler is no help", Due.port("EG10S21Y401Y112Y113").can(0), 0);
    }

    private static void promise20() {
        LoveGlass x = Due.port(PORT);
        int[] all = {1, 3, 0, 3};
        for (int suitor = 0; suitor < 4; suitor++) {
            due.due("does(" + suitor + ")", x.does(suitor), all[suitor]);
        }
        due.due("does(4)", x.does(4), -1);
        due.due("does(-1)", x.does(-1), -1);
        x.turn(0, 0);
        x.say(0);
        String was = Due.seen(x);
        due.due("does in a run", x.does(2), 0);
        due.due("does changes nothing", Due.seen(x), was);
        due.due("no glasses", Due.port("ES10Y111Y112Y113").does(0), -9);
        due.due("too slow", Due.port("EG10S40Y111Y112Y113").does(0), -9);
        due.due("red ones have more: 20 before 30", Due.port("EG22G20S40Y111Y112Y113").does(0), 1);
        due.due("grains, not sand: 30 and 30", Due.port("EG30G22S40Y111Y112Y113").does(0), 0);
        due.due("of like ones the least", Due.port("EG22G30S40Y111Y112Y113").does(0), 0);
    }

    private static void promise21() {
        LoveGlass x = Due.port(PORT);
        due.due("matched(false)", x.matched(false), 4);
        due.due("matched(true)", x.matched(true), 12134);
        x.turn(0, 0);
        x.say(0);
        String was = Due.seen(x);
        due.due("matched(true) in a run", x.matched(true), 12134);
        due.due("matched changes nothing", Due.seen(x), was);
        String sayings = "Y111Y112Y113";
        // port, how many, the way
        String[] ports = {"E", "EG10", "ES10S10" + sayings, "EG10G10", "EG10S10", "EG10S10S10S10" + sayings,
            "EG10G20G20S10S40" + sayings, "EG10G20S40S10" + sayings, "EG10G10G20G10S10S10S40" + sayings,
            "EG20G10S40S10" + sayings, "EG20S40S40S10S10" + sayings};
        int[][] all = {{0, 1}, {0, 1}, {0, 100}, {0, 1}, {0, 10}, {1, 1001},
            {2, 112}, {2, 121}, {3, 1123}, {2, 112}, {1, 10001}};
        for (int i = 0; i < ports.length; i++) {
            x = Due.port(ports[i]);
            due.due("matched(false) of " + ports[i], x.matched(false), all[i][0]);
            due.due("matched(true) of " + ports[i], x.matched(true), all[i][1]);
        }
    }

    private static void judged(LoveGlass x, int n, int row, int want) {
        String was = Due.run(x);
        due.due("judge(" + n + ", " + row + ")", x.judge(n, row), want);
        due.due("judge changes nothing", Due.run(x), was);
    }

    private static void promise22() {
        LoveGlass x = Due.port(PORT);
        judged(x, 0, 0, -2);
        judged(x, 5, 0, -2);
        judged(x, -1, 0, -2);
        judged(x, 1, -1, -2);
        judged(x, 1, 100, -2);
        judged(x, 2, 10000, -2);
        judged(x, 3, 1000000, -2);
        judged(x, 4, 100000000, -2);
        judged(x, 4, Integer.MAX_VALUE, -2);
        judged(x, 4, Integer.MIN_VALUE, -2);
        judged(x, 1, 0, 0);
        judged(x, 1, 10, 0);
        judged(x, 1, 21, 0);
        judged(x, 1, 30, 0);
        judged(x, 1, 40, -9);
        judged(x, 1, 41, 0);
        x = Due.port(PORT);
        x.turn(0, 0);
        judged(x, 4, 10230, -9);
        judged(x, 4, 1020030, 3);
        judged(x, 4, 10030, 2);
        judged(x, 3, 102, -9);
        judged(x, 3, 100, 2);
        judged(x, 2, 10, -9);
        judged(x, 1, 5, 0);
        judged(x, 1, 4, -9);
        judged(x, 1, 9, 0);
        judged(x, 1, 11, 0);
        judged(x, 1, 20, 0);
        judged(x, 1, 31, 0);
        judged(x, 1, 50, 0);
        judged(x, 1, 60, 0);
        judged(x, 1, 99, 0);
        judged(x, 4, 40004347, 3);
        judged(x, 3, 404300, 1);
        judged(x, 3, 4340, -9);
        judged(x, 2, 43, -9);
        judged(x, 2, 44, 1);
        judged(x, 3, 4049, 2);
        judged(x, 4, 29292921, 3);
        judged(x, 3, 292910, -9);
        judged(x, 4, 29291010, -9);
        judged(x, 4, 29291003, 3);
        judged(x, 4, 29291004, 3);
        judged(x, 4, 29292910, 3);
        judged(x, 3, 292929, -9);
        x = Due.port(PORT);
        x.turn(3, 0);
        judged(x, 4, 29291010, -9);
        judged(x, 4, 29292910, 2);
        x.draw(9);
        judged(x, 3, 211010, -9);
        judged(x, 3, 102110, -9);
        judged(x, 3, 102121, 2);
        x.turn(2, 0);
        x.say(0);
        judged(x, 3, 10230, -9);
        judged(x, 1, 0, 0);
        judged(x, 1, 43, -9);
        judged(x, 1, 44, 0);
    }

    private static void shareIs(LoveGlass x, int saying, int above, int below) {
        String was = Due.run(x);
        due.due("share(" + saying + ", true)", x.share(saying, true), above);
        due.due("share(" + saying + ", false)", x.share(saying, false), below);
        due.due("share changes nothing", Due.run(x), was);
    }

    private static void promise23() {
        LoveGlass x = Due.port(PORT);
        due.due("no glass runs", x.share(0, true), -3);
        due.due("no glass runs, below", x.share(0, false), -3);
        due.due("no such saying", x.share(5, true), -1);
        due.due("share(-1)", x.share(-1, false), -1);
        x.turn(0, 0);
        due.due("no such saying in a run", x.share(5, false), -1);
        // 12 / 3 + 7 / 4 + 9 / 4: all five fit.
        for (int saying = 0; saying < 3; saying++) {
            shareIs(x, saying, 8, 1);
        }
        shareIs(x, 3, 7, 4);
        shareIs(x, 4, 9, 4);
        x.say(2);
        x.draw(9);
        x.draw(9);
        shareIs(x, 0, 8, 1);
        shareIs(x, 3, 7, 4);
        x.turn(3, 0);
        // All five do not fit any more: 7 / 5 less for each.
        shareIs(x, 0, 33, 5);
        shareIs(x, 3, 7, 20);
        shareIs(x, 4, 17, 20);
        x.turn(3, 2);
        shareIs(x, 0, 0, 1);
        shareIs(x, 4, 0, 1);
        x = Due.port("EG90S10Y151Y131Y112Y113");
        x.turn(0, 0);
        // Of 24 orders 2 have the vow and the ask alone ahead of name 0: 7 more; in 6 it is the last one: 10 - 5 more.
        shareIs(x, 0, 11, 6);
        // Likewise 2 times 5 and 6 times 10 - 7.
        shareIs(x, 1, 7, 6);
        x = Due.port("EG90S10Y191");
        x.turn(0, 0);
        shareIs(x, 0, 0, 1);
    }

    public static void main(String[] args) {
        promise17();
        promise18();
        promise19();
        promise20();
        promise21();
        promise22();
        promise23();
        due.end();
    }
}
