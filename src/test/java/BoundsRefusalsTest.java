import java.util.function.Supplier;
import java.util.function.ToLongFunction;

/**
 * Each sentence on REFUSALS, part 4: their numbers, what is told first, and that what is refused changes nothing that
 * later calls show, in each state in which a call can be refused. And the last of an object's 512 calls.
 */
public final class BoundsRefusalsTest {
    private static final int MIN = Integer.MIN_VALUE, MAX = Integer.MAX_VALUE;
    private static final int[] ALL_NUMBERS = {MIN, MIN + 1, -65536, -256, -9, -2, -1, 0, 1, 2, 3, 4, 5, 6, 7, 9, 10, 11, 13, 30, 31,
        56, 99, 100, 255, 256, 9999, 10000, 65536, 99999999, 100000000, MAX - 1, MAX};
    private static final String PORT = "EG20G11G32G13S10S21S22S13Y231Y142Y153Y470Y390";
    private static final Due due = new Due();

    private static LoveGlass none() {
        return new LoveGlass();
    }

    private static LoveGlass made() {
        return Made.port(PORT);
    }

    /** A glass runs, and all but the text is in use. */
    private static LoveGlass runs() {
        LoveGlass x = Made.turned(PORT, 2, 3, 3, 0);
        Made.could(x.keep(1), "keep");
        Made.could(x.draw(2), "draw");
        Made.could(x.time(0, 0, 1, 2), "time");
        x.seed(8);
        return x;
    }

    private static LoveGlass drained() {
        return Made.left(0, Made.turned(PORT, 0, 0, 0));
    }

    /** All that can be full is full: the text, the acts, what is timed, what is said. */
    private static LoveGlass full() {
        LoveGlass x = made();
        while (x.about(12) < 56) {
            Made.could(x.write('E'), "write");
        }
        for (int i = 0; i < 6; i++) {
            Made.could(x.time(4, i, 1, 3), "time");
        }
        Made.could(x.turn(2, 2), "turn");
        Made.could(x.keep(0), "keep");
        for (int saying = 0; saying < 5; saying++) {
            Made.could(x.say(saying), "say");
        }
        Made.could(x.keep(1), "keep");
        for (int i = 0; i < 12; i++) {
            Made.could(x.pause(), "pause");
        }
        x.seed(-5);
        return x;
    }

    /** A call that is refused, and what later calls show then. */
    private static void refused(String state, Supplier<LoveGlass> make, String call, ToLongFunction<LoveGlass> act, long want) {
        LoveGlass x = make.get();
        due.due(state + ": " + call, act.applyAsLong(x), want);
        due.due(state + ": what later calls show behind " + call, Later.shows(x), Later.shows(make.get()));
    }

    private static void numbers() {
        due.under("REFUSALS: UNKNOWN -1, BAD -2, LATE -3, FULL -4; NONE is -9");
        due.due("UNKNOWN", LoveGlass.UNKNOWN, -1);
        due.due("BAD", LoveGlass.BAD, -2);
        due.due("LATE", LoveGlass.LATE, -3);
        due.due("FULL", LoveGlass.FULL, -4);
        due.due("NONE", LoveGlass.NONE, -9);
    }

    /** What is refused in whatever state. */
    private static void always(String state, Supplier<LoveGlass> make) {
        due.under("What is refused changes nothing: BAD, UNKNOWN in whatever state: " + state);
        refused(state, make, "write(-1)", x -> x.write(-1), -2);
        refused(state, make, "write(256)", x -> x.write(256), -2);
        refused(state, make, "about(-1)", x -> x.about(-1), -2);
        refused(state, make, "about(13)", x -> x.about(13), -2);
        refused(state, make, "glass(-1, 0)", x -> x.glass(-1, 0), -1);
        refused(state, make, "glass(4, 3)", x -> x.glass(4, 3), -1);
        refused(state, make, "suitor(-1, 0)", x -> x.suitor(-1, 0), -1);
        refused(state, make, "suitor(4, 2)", x -> x.suitor(4, 2), -1);
        refused(state, make, "saying(-1, 0)", x -> x.saying(-1, 0), -1);
        refused(state, make, "saying(6, 4)", x -> x.saying(6, 4), -1);
        refused(state, make, "said(-1)", x -> x.said(-1), -1);
        refused(state, make, "said(6)", x -> x.said(6), -1);
        refused(state, make, "takes(6, 0, 0, 6)", x -> x.takes(6, 0, 0, 6), -1);
        refused(state, make, "takes(0, 4, 0, 6)", x -> x.takes(0, 4, 0, 6), -1);
        refused(state, make, "takes(0, 0, 4, -1)", x -> x.takes(0, 0, 4, -1), -1);
        refused(state, make, "turn(-1, 0)", x -> x.turn(-1, 0), -1);
        refused(state, make, "turn(4, 0)", x -> x.turn(4, 0), -1);
        refused(state, make, "turn(0, -1)", x -> x.turn(0, -1), -1);
        refused(state, make, "turn(0, 4)", x -> x.turn(0, 4), -1);
        refused(state, make, "say(-1)", x -> x.say(-1), -1);
        refused(state, make, "say(6)", x -> x.say(6), -1);
        refused(state, make, "draw(0)", x -> x.draw(0), -2);
        refused(state, make, "draw(10)", x -> x.draw(10), -2);
        refused(state, make, "can(-1)", x -> x.can(-1), -1);
        refused(state, make, "can(4)", x -> x.can(4), -1);
        refused(state, make, "does(-1)", x -> x.does(-1), -1);
        refused(state, make, "does(4)", x -> x.does(4), -1);
        refused(state, make, "judge(0, 0)", x -> x.judge(0, 0), -2);
        refused(state, make, "judge(5, 0)", x -> x.judge(5, 0), -2);
        refused(state, make, "judge(1, -1)", x -> x.judge(1, -1), -2);
        refused(state, make, "judge(1, 100)", x -> x.judge(1, 100), -2);
        refused(state, make, "share(-1, true)", x -> x.share(-1, true), -1);
        refused(state, make, "share(6, false)", x -> x.share(6, false), -1);
        refused(state, make, "time(-1, 0, 1, 0)", x -> x.time(-1, 0, 1, 0), -1);
        refused(state, make, "time(6, 6, 5, 100)", x -> x.time(6, 6, 5, 100), -1);
        refused(state, make, "rests(-1, -1, 2)", x -> x.rests(-1, -1, 2), -1);
        refused(state, make, "rests(0, 4, 0)", x -> x.rests(0, 4, 0), -1);
        refused(state, make, "misheard(-1, true)", x -> x.misheard(-1, true), -2);
        refused(state, make, "misheard(11, false)", x -> x.misheard(11, false), -2);
        refused(state, make, "weeks(0)", x -> x.weeks(0), -2);
        refused(state, make, "weeks(31)", x -> x.weeks(31), -2);
        refused(state, make, "keep(-1)", x -> x.keep(-1), -1);
        refused(state, make, "keep(2)", x -> x.keep(2), -1);
        refused(state, make, "again(-1)", x -> x.again(-1), -1);
        refused(state, make, "again(2)", x -> x.again(2), -1);
    }

    /** What is refused where there is a port of four glasses, four suitors and five sayings. */
    private static void inPort(String state, Supplier<LoveGlass> make) {
        due.under("What is refused changes nothing: BAD, UNKNOWN in a port: " + state);
        refused(state, make, "glass(3, -1)", x -> x.glass(3, -1), -2);
        refused(state, make, "glass(3, 3)", x -> x.glass(3, 3), -2);
        refused(state, make, "suitor(3, -1)", x -> x.suitor(3, -1), -2);
        refused(state, make, "suitor(3, 2)", x -> x.suitor(3, 2), -2);
        refused(state, make, "saying(4, -1)", x -> x.saying(4, -1), -2);
        refused(state, make, "saying(4, 4)", x -> x.saying(4, 4), -2);
        refused(state, make, "saying(5, 0)", x -> x.saying(5, 0), -1);
        refused(state, make, "takes(4, 3, 3, -1)", x -> x.takes(4, 3, 3, -1), -2);
        refused(state, make, "takes(4, 3, 3, 6)", x -> x.takes(4, 3, 3, 6), -2);
        refused(state, make, "say(5)", x -> x.say(5), -1);
        refused(state, make, "share(5, true)", x -> x.share(5, true), -1);
        refused(state, make, "time(5, 0, 1, 0)", x -> x.time(5, 0, 1, 0), -1);
        refused(state, make, "time(4, -1, 1, 0)", x -> x.time(4, -1, 1, 0), -2);
        refused(state, make, "time(4, 6, 1, 0)", x -> x.time(4, 6, 1, 0), -2);
        refused(state, make, "time(4, 0, 0, 0)", x -> x.time(4, 0, 0, 0), -2);
        refused(state, make, "time(4, 0, 5, 0)", x -> x.time(4, 0, 5, 0), -2);
        refused(state, make, "time(4, 0, 1, -1)", x -> x.time(4, 0, 1, -1), -2);
        refused(state, make, "time(4, 0, 1, 100)", x -> x.time(4, 0, 1, 100), -2);
        refused(state, make, "rests(3, 3, 0)", x -> x.rests(3, 3, 0), -2);
        refused(state, make, "rests(0, 3, -1)", x -> x.rests(0, 3, -1), -2);
        refused(state, make, "rests(0, 3, 2)", x -> x.rests(0, 3, 2), -2);
    }

    private static void late() {
        due.under("What is refused changes nothing: LATE: no GLASS runs");
        refused("new", BoundsRefusalsTest::none, "port()", LoveGlass::port, -3);
        refused("new", BoundsRefusalsTest::none, "pause()", LoveGlass::pause, -3);
        refused("new", BoundsRefusalsTest::none, "draw(1)", x -> x.draw(1), -3);
        refused("new", BoundsRefusalsTest::none, "undo()", LoveGlass::undo, -3);
        refused("new", BoundsRefusalsTest::none, "again(0)", x -> x.again(0), -3);
        refused("port", BoundsRefusalsTest::made, "say(0)", x -> x.say(0), -3);
        refused("port", BoundsRefusalsTest::made, "pause()", LoveGlass::pause, -3);
        refused("port", BoundsRefusalsTest::made, "draw(9)", x -> x.draw(9), -3);
        refused("port", BoundsRefusalsTest::made, "undo()", LoveGlass::undo, -3);
        refused("port", BoundsRefusalsTest::made, "share(4, true)", x -> x.share(4, true), -3);
        refused("port", BoundsRefusalsTest::made, "rests(0, 3, 0)", x -> x.rests(0, 3, 0), -3);
        refused("port", BoundsRefusalsTest::made, "again(1)", x -> x.again(1), -3);
        due.under("What is refused changes nothing: LATE: a GLASS runs");
        refused("runs", BoundsRefusalsTest::runs, "say(3), the first SAID", x -> x.say(3), -3);
        refused("runs", BoundsRefusalsTest::runs, "say(0), the last SAID", x -> x.say(0), -3);
        refused("runs", BoundsRefusalsTest::runs, "again(0)", x -> x.again(0), -3);
        refused("drained", BoundsRefusalsTest::drained, "say(1)", x -> x.say(1), -3);
        refused("drained", BoundsRefusalsTest::drained, "pause()", LoveGlass::pause, -3);
        refused("drained", BoundsRefusalsTest::drained, "draw(1)", x -> x.draw(1), -3);
        due.under("What is refused changes nothing: FULL, LATE, where all is full");
        refused("full", BoundsRefusalsTest::full, "write(0)", x -> x.write(0), -4);
        refused("full", BoundsRefusalsTest::full, "write(255)", x -> x.write(255), -4);
        refused("full", BoundsRefusalsTest::full, "port()", LoveGlass::port, -3);
        refused("full", BoundsRefusalsTest::full, "say(4)", x -> x.say(4), -3);
        refused("full", BoundsRefusalsTest::full, "time(4, 0, 1, 3)", x -> x.time(4, 0, 1, 3), -4);
        refused("full", BoundsRefusalsTest::full, "time(0, 5, 4, 99)", x -> x.time(0, 5, 4, 99), -4);
    }

    private static void toldFirst() {
        due.under("Of several what is told first: BAD ahead of FULL");
        due.due("write(256)", full().write(256), -2);
        due.due("write(-1)", full().write(-1), -2);
        due.due("time(4, 6, 1, 0)", full().time(4, 6, 1, 0), -2);
        due.due("time(4, 0, 0, 0)", full().time(4, 0, 0, 0), -2);
        due.due("time(4, 0, 1, 100)", full().time(4, 0, 1, 100), -2);
        due.under("Of several what is told first: UNKNOWN ahead of BAD");
        due.due("glass(4, 3)", made().glass(4, 3), -1);
        due.due("suitor(4, 2)", made().suitor(4, 2), -1);
        due.due("saying(5, 4)", made().saying(5, 4), -1);
        due.due("takes(5, 0, 0, 6)", made().takes(5, 0, 0, 6), -1);
        due.due("time(5, 6, 1, 0)", made().time(5, 6, 1, 0), -1);
        due.due("rests(4, 4, 0)", runs().rests(4, 4, 0), -1);
        due.due("rests(0, 4, 2)", runs().rests(0, 4, 2), -1);
        due.under("Of several what is told first: UNKNOWN ahead of LATE");
        due.due("say(5), no GLASS runs", made().say(5), -1);
        due.due("share(5, true), no GLASS runs", made().share(5, true), -1);
        due.due("rests(0, 4, 0), no GLASS runs", made().rests(0, 4, 0), -1);
        due.due("again(2), none were kept", made().again(2), -1);
        due.under("Of several what is told first: UNKNOWN ahead of FULL");
        due.due("time(5, 0, 1, 0)", full().time(5, 0, 1, 0), -1);
        due.under("Of several what is told first: BAD ahead of LATE");
        due.due("draw(0), no GLASS runs", made().draw(0), -2);
        due.due("draw(10), none is left", drained().draw(10), -2);
        due.due("rests(0, 0, 0), no GLASS runs", made().rests(0, 0, 0), -2);
        due.due("rests(0, 1, 2), no GLASS runs", made().rests(0, 1, 2), -2);
        due.under("Of several what is told first: UNKNOWN ahead of BAD and of LATE, of BAD and of FULL");
        due.due("rests(4, 4, 2), no GLASS runs", made().rests(4, 4, 2), -1);
        due.due("time(5, 6, 5, 100)", full().time(5, 6, 5, 100), -1);
    }

    /** Whether an answer is refused, or NONE, or a number that is told. */
    private static void inBounds(String call, long answer) {
        boolean may = answer >= 0 || answer >= -4 && answer <= -1 || answer == -9;
        due.due(call + " answered " + answer + ", in bounds", may ? 1 : 0, 1);
    }

    /** Every call with whatever numbers, in one state: nothing is thrown, and no answer is out of bounds. */
    private static void anyNumbers(String state, Supplier<LoveGlass> make) {
        due.under("No call throws, whatever it is told: " + state);
        for (int a : ALL_NUMBERS) {
            LoveGlass x = make.get();
            String was = Due.run(x);
            inBounds(state + ": about(" + a + ")", x.about(a));
            inBounds(state + ": said(" + a + ")", x.said(a));
            inBounds(state + ": can(" + a + ")", x.can(a));
            inBounds(state + ": does(" + a + ")", x.does(a));
            inBounds(state + ": share(" + a + ", true)", x.share(a, true));
            inBounds(state + ": misheard(" + a + ", false)", x.misheard(a, false));
            for (int b : ALL_NUMBERS) {
                inBounds(state + ": glass(" + a + ", " + b + ")", x.glass(a, b));
                inBounds(state + ": suitor(" + a + ", " + b + ")", x.suitor(a, b));
                inBounds(state + ": saying(" + a + ", " + b + ")", x.saying(a, b));
                inBounds(state + ": judge(" + a + ", " + b + ")", x.judge(a, b));
                inBounds(state + ": rests(" + a + ", " + b + ", 0)", x.rests(a, b, 0));
                inBounds(state + ": rests(0, " + a + ", " + b + ")", x.rests(0, a, b));
                inBounds(state + ": takes(" + a + ", " + b + ", 0, 0)", x.takes(a, b, 0, 0));
                inBounds(state + ": takes(0, 0, " + a + ", " + b + ")", x.takes(0, 0, a, b));
            }
            due.due(state + ": what is seen behind all by " + a, Due.run(x), was);
        }
        for (int a : ALL_NUMBERS) {
            LoveGlass x = make.get();
            inBounds(state + ": write(" + a + ")", x.write(a));
            inBounds(state + ": say(" + a + ")", x.say(a));
            inBounds(state + ": draw(" + a + ")", x.draw(a));
            inBounds(state + ": weeks(" + a + ")", x.weeks(a));
            inBounds(state + ": keep(" + a + ")", x.keep(a));
            inBounds(state + ": again(" + a + ")", x.again(a));
            inBounds(state + ": time(" + a + ", 0, 1, 0)", x.time(a, 0, 1, 0));
            inBounds(state + ": time(0, " + a + ", 1, 0)", x.time(0, a, 1, 0));
            inBounds(state + ": time(0, 0, " + a + ", 0)", x.time(0, 0, a, 0));
            inBounds(state + ": time(0, 0, 1, " + a + ")", x.time(0, 0, 1, a));
            inBounds(state + ": turn(" + a + ", 0)", x.turn(a, 0));
            inBounds(state + ": turn(0, " + a + ")", x.turn(0, a));
            inBounds(state + ": fault()", x.fault());
            inBounds(state + ": port()", x.port());
        }
    }

    private static void calls() {
        due.under("An object is used for at most 512 calls: the last of them answers as it is due");
        LoveGlass x = new LoveGlass();
        for (int call = 1; call <= 512; call++) {
            // 56 bytes, one too much, wiped: 58 calls a round.
            int at = (call - 1) % 58 + 1;
            due.due("call " + call, at == 58 ? x.wipe() : x.write('E'), at == 58 ? 56 : at == 57 ? -4 : at);
        }
        x = made();
        int used = PORT.length() + 2;
        for (int call = used + 1; call <= 512; call++) {
            due.due("turn, call " + call, x.turn(call % 4, 0), new int[] {20, 10, 45, 10}[call % 4]);
        }
        x = made();
        for (int call = used + 1; call + 1 <= 512; call += 2) {
            due.due("turn, call " + call, x.turn(0, 0), 20);
            due.due("undo, call " + (call + 1), x.undo(), 0);
        }
        x = new LoveGlass();
        for (int call = 1; call < 512; call++) {
            due.due("weeks, call " + call, x.weeks(30), 0);
        }
        due.due("seed, call 512: THE SEED behind 511 times 30 weeks", x.seed(0), seedBehind(511 * 30));
    }

    private static long seedBehind(int weeks) {
        long x = 0;
        for (int i = 0; i < weeks; i++) {
            x = x * Seeds.FACTOR + Seeds.MORE;
        }
        return x;
    }

    private static void states(String state, Supplier<LoveGlass> make, boolean port) {
        always(state, make);
        if (port) {
            inPort(state, make);
        }
        anyNumbers(state, make);
    }

    public static void main(String[] args) {
        numbers();
        states("new", BoundsRefusalsTest::none, false);
        states("port", BoundsRefusalsTest::made, true);
        states("runs", BoundsRefusalsTest::runs, true);
        states("drained", BoundsRefusalsTest::drained, true);
        states("full", BoundsRefusalsTest::full, true);
        late();
        toldFirst();
        calls();
        due.end();
    }
}
