import java.math.BigInteger;

/** The boundary cases of promises 25 to 33; above each test the sentence that names them. */
public final class ChanceEdgesTest {
    private static final int[] FAR = {-1000000, Integer.MIN_VALUE, Integer.MAX_VALUE, 1000000, 256, -256};
    /** A bottle without a cap comes to the pusher, in the last cell, in the sixth step. */
    private static final String BAD_BOTTLE = "B6123455020v504b";
    private static final BigInteger ROUND = BigInteger.ONE.shiftLeft(64);

    public static void main(String[] args) {
        seeFrom0To2();
        seeAfter0To20();
        seeValuesFrom0To99();
        seeUpTo6();
        seeBadBeforeFull();
        unseeOfNoneAndAll();
        whichWithoutObservations();
        whichOfTheImpossible();
        whichFrom0();
        whichTo9();
        whichBeforeTheSlip();
        whichAfter20Steps();
        whichDuringAnAlarm();
        shareOfEachValve();
        shareOfNothing();
        shareBelow0();
        sharesMakeTheWhole();
        chanceFrom1To6();
        chanceFrom0To10();
        chanceWithAnAlarm();
        chanceIfJammed();
        chanceInLowestTerms();
        seedAtFirst();
        seedOfAnyLong();
        drawnFrom1To20();
        drawnWrapsAround();
        drawnEachEvent();
        drawnDuringAnAlarm();
        keepSlots0And1();
        againUnknownBeforeLate();
        againStaysKept();
        slotsAfterLine();
        keepAnAlarm();
        Due.end("ChanceEdgesTest");
    }

    private static BottleLine withAlarm() {
        BottleLine x = Due.lineOf(BAD_BOTTLE);
        x.jam();
        x.step(6);
        Due.is("alarm", x.about(9), 1);
        return x;
    }

    /** "what: 0 out, 1 rejected, 2 escaped" */
    private static void seeFrom0To2() {
        BottleLine x = new BottleLine();
        Due.is("see(-1, 0, 0)", x.see(-1, 0, 0), Due.BAD);
        Due.is("see(3, 0, 0)", x.see(3, 0, 0), Due.BAD);
        for (int what : FAR) {
            Due.is("see(" + what + ", 0, 0)", x.see(what, 0, 0), Due.BAD);
        }
        Due.is("no observation", x.about(19), 0);
        for (int what = 0; what <= 2; what++) {
            Due.is("see(" + what + ", 0, 0)", x.see(what, 0, 0), what + 1);
        }
        Due.is("three observations", x.about(19), 3);
    }

    /** "n: 0 to 20" */
    private static void seeAfter0To20() {
        BottleLine x = new BottleLine();
        Due.is("see(0, -1, 0)", x.see(0, -1, 0), Due.BAD);
        Due.is("see(0, 21, 0)", x.see(0, 21, 0), Due.BAD);
        for (int n : FAR) {
            Due.is("see(0, " + n + ", 0)", x.see(0, n, 0), Due.BAD);
        }
        Due.is("see(0, 0, 0)", x.see(0, 0, 0), 1);
        Due.is("see(0, 20, 0)", x.see(0, 20, 0), 2);
    }

    /** "v: 0 to 99" */
    private static void seeValuesFrom0To99() {
        BottleLine x = new BottleLine();
        Due.is("see(0, 0, -1)", x.see(0, 0, -1), Due.BAD);
        Due.is("see(0, 0, 100)", x.see(0, 0, 100), Due.BAD);
        for (int v : FAR) {
            Due.is("see(0, 0, " + v + ")", x.see(0, 0, v), Due.BAD);
        }
        Due.is("see(0, 0, 0)", x.see(0, 0, 0), 1);
        Due.is("see(0, 0, 99)", x.see(0, 0, 99), 2);
    }

    /** "FULL if there are already 6" */
    private static void seeUpTo6() {
        BottleLine x = new BottleLine();
        for (int i = 1; i <= 6; i++) {
            Due.is("see to " + i, x.see(0, 0, 0), i);
        }
        Due.is("see to 7", x.see(0, 0, 5), Due.FULL);
        Due.is("observations", x.about(19), 6);
        Due.is("the seventh does not count", x.which(), 1023);
        x.unsee();
        Due.is("see after unsee", x.see(0, 0, 5), 1);
        Due.is("it counts", x.which(), 0);
    }

    /** "BAD; FULL if there are already 6" */
    private static void seeBadBeforeFull() {
        BottleLine x = new BottleLine();
        for (int i = 1; i <= 6; i++) {
            x.see(1, i, 0);
        }
        int[][] wrong = {{-1, 0, 0}, {3, 0, 0}, {0, -1, 0}, {0, 21, 0}, {0, 0, -1}, {0, 0, 100}};
        for (int[] one : wrong) {
            Due.is("see " + one[0] + " " + one[1] + " " + one[2], x.see(one[0], one[1], one[2]), Due.BAD);
        }
        Due.is("see(2, 20, 99)", x.see(2, 20, 99), Due.FULL);
    }

    /** "Returns how many there were." */
    private static void unseeOfNoneAndAll() {
        BottleLine x = new BottleLine();
        Due.is("unsee() of none", x.unsee(), 0);
        for (int i = 1; i <= 6; i++) {
            x.see(0, 0, 1);
        }
        Due.is("unsee() of 6", x.unsee(), 6);
        Due.is("unsee() again", x.unsee(), 0);
        Due.is("which() of none", x.which(), 1023);
    }

    private static void which(BottleLine x, int what, int n, int v, int want) {
        x.unsee();
        x.see(what, n, v);
        Due.is("which() of " + what + " " + n + " " + v, x.which(), want);
    }

    /** "the numbers i from 0 to 9 for which all observations are true": all of them, if there are none. */
    private static void whichWithoutObservations() {
        Due.is("which() at first", new BottleLine().which(), 1023);
        Due.is("which() with an alarm", withAlarm().which(), 1023);
    }

    /** "Returns the set of these numbers.": the empty one. */
    private static void whichOfTheImpossible() {
        BottleLine x = new BottleLine();
        which(x, 0, 0, 1, 0);
        which(x, 0, 20, 1, 0);
        which(x, 0, 20, 0, 1023);
        x.see(0, 0, 99);
        Due.is("one true and one false", x.which(), 0);
        x.unsee();
        x.see(1, 5, 0);
        x.see(1, 5, 1);
        Due.is("a contradiction", x.which(), 0);
    }

    /** "the marks slip once, after i steps": from 0. The mark is in cell 4, the pusher at 6. */
    private static void whichFrom0() {
        BottleLine x = Due.lineOf("B8123465020v504b");
        x.step(5);
        which(x, 1, 2, 1, 1020);
        which(x, 1, 20, 0, 3);
        which(x, 2, 4, 1, 2);
        x.see(1, 20, 0);
        x.see(2, 20, 1);
        Due.is("escaped", x.which(), 2);
        x.unsee();
        x.see(1, 20, 0);
        x.see(2, 20, 0);
        Due.is("an alarm", x.which(), 1);
    }

    /** ".. to 9": the mark is made in the eighth, ninth or tenth step. */
    private static void whichTo9() {
        BottleLine eighth = Due.lineOf("B8123465020v504---b");
        which(eighth, 1, 10, 1, 255);
        which(eighth, 2, 12, 1, 512);
        which(eighth, 2, 12, 0, 511);
        BottleLine ninth = Due.lineOf("B8123465020v504----b");
        which(ninth, 1, 11, 1, 511);
        which(ninth, 2, 13, 1, 0);
        BottleLine tenth = Due.lineOf("B8123465020v504-----b");
        which(tenth, 1, 12, 1, 1023);
    }

    /** "(an observation with n at most i refers to the time before that)" */
    private static void whichBeforeTheSlip() {
        // A slip after 7 steps comes just after the pusher, one after 6 steps just before it.
        BottleLine x = Due.lineOf("B8123465020v504b");
        which(x, 1, 6, 0, 1023);
        which(x, 1, 7, 1, 1023 - 32 - 64);
        which(x, 1, 7, 0, 32 + 64);
        which(x, 1, 8, 1, 1023 - 32 - 64);
        which(x, 1, 0, 0, 1023);
    }

    /** "a count has a value after n steps", "n: 0 to 20": the last one. */
    private static void whichAfter20Steps() {
        BottleLine x = Due.lineOf("B6123450000c09l09" + "-".repeat(13) + "bb");
        which(x, 0, 20, 1, 1023);
        which(x, 0, 20, 2, 0);
        which(x, 0, 19, 1, 0);
        which(x, 0, 19, 0, 1023);
        x.step(1);
        which(x, 0, 20, 2, 1023);
        which(x, 0, 19, 1, 1023);
    }

    /** "there are no further steps after an alarm" */
    private static void whichDuringAnAlarm() {
        BottleLine x = withAlarm();
        which(x, 1, 20, 0, 1023);
        which(x, 2, 20, 0, 1023);
        which(x, 2, 20, 1, 0);
        BottleLine soon = Due.lineOf("B6123455020v504bb");
        soon.jam();
        which(soon, 1, 20, 0, 1023);
        // Only a slip after 5 steps lets the first bottle pass the jammed pusher; the second one stops the line then.
        which(soon, 2, 20, 1, 32);
    }

    private static void share(BottleLine x, int valve, int upper, int lower) {
        Due.is("share(" + valve + ", true)", x.share(valve, true), upper);
        Due.is("share(" + valve + ", false)", x.share(valve, false), lower);
    }

    /** "Returns that part; UNKNOWN." */
    private static void shareOfEachValve() {
        for (int valves = 0; valves <= 4; valves++) {
            BottleLine x = Due.lineOf("B6123455020" + "v504".repeat(valves) + "c09l09bbbb");
            for (int valve = 0; valve < valves; valve++) {
                share(x, valve, 4 / valves + (valve < 4 % valves ? 1 : 0), 1);
            }
            share(x, valves, Due.UNKNOWN, Due.UNKNOWN);
            share(x, -1, Due.UNKNOWN, Due.UNKNOWN);
            for (int valve : FAR) {
                share(x, valve, Due.UNKNOWN, Due.UNKNOWN);
            }
        }
    }

    /** "(0 is 0 / 1)" */
    private static void shareOfNothing() {
        BottleLine x = Due.lineOf("B6123455020v504v504v504v504c09l09");
        for (int valve = 0; valve < 4; valve++) {
            share(x, valve, 0, 1);
        }
        share(withAlarm(), 0, 0, 1);
        // Off or on, a valve with 0 fills the same.
        share(Due.lineOf("B6123450000v004v004c09l09bb"), 1, 0, 1);
    }

    /** "true for the numerator (which may be negative)", "with a positive denominator" */
    private static void shareBelow0() {
        BottleLine x = Due.lineOf("B6123450000v504c09l09b");
        share(x, 0, -1, 1);
        BottleLine two = Due.lineOf("B6123450002v504v504c09l09bb");
        share(two, 0, -1, 2);
        share(two, 1, -1, 2);
        BottleLine three = Due.lineOf("B6123450003v504v504v504c09l09bbb");
        share(three, 0, -2, 3);
        share(three, 2, -2, 3);
    }

    /** The increases of all valves make up the whole increase of out. */
    private static void sharesMakeTheWhole() {
        BottleLine x = Due.lineOf("B6123455024v504v518v470v534c09l09bxbbbbbbbbxbb");
        long sum = 0;
        for (int valve = 0; valve < 4; valve++) {
            int lower = x.share(valve, false);
            Due.is("24 is divided by " + lower, lower > 0 ? 24 % lower : -1, 0);
            sum += x.share(valve, true) * (24 / lower);
        }
        Due.is("the shares together", sum, 24L * x.ahead(30, 11));
        Due.is("something is out", x.ahead(30, 11) > 3 ? 1 : 0, 1);
    }

    private static void chance(BottleLine x, int n, int of10, int upper, int lower) {
        String call = "chance(" + n + ", " + of10;
        Due.is(call + ", true)", x.chance(n, of10, true), upper);
        Due.is(call + ", false)", x.chance(n, of10, false), lower);
    }

    /** "n: 1 to 6" */
    private static void chanceFrom1To6() {
        BottleLine x = Due.lineOf("B6123455020v504bbbbbb");
        x.step(5);
        int[] powers = {1, 2, 4, 8, 16, 32, 64};
        for (int n = 1; n <= 6; n++) {
            chance(x, n, 5, 1, powers[n]);
        }
        chance(x, 0, 5, Due.BAD, Due.BAD);
        chance(x, 7, 5, Due.BAD, Due.BAD);
        chance(x, -1, 5, Due.BAD, Due.BAD);
        for (int n : FAR) {
            chance(x, n, 5, Due.BAD, Due.BAD);
        }
    }

    /** "x: 0 to 10" */
    private static void chanceFrom0To10() {
        BottleLine x = Due.lineOf(BAD_BOTTLE);
        x.step(5);
        int[] uppers = {1, 9, 4, 7, 3, 1, 2, 3, 1, 1, 0};
        int[] lowers = {1, 10, 5, 10, 5, 2, 5, 10, 5, 10, 1};
        for (int of10 = 0; of10 <= 10; of10++) {
            chance(x, 1, of10, uppers[of10], lowers[of10]);
            chance(x, 6, of10, uppers[of10], lowers[of10]);
        }
        chance(x, 1, -1, Due.BAD, Due.BAD);
        chance(x, 1, 11, Due.BAD, Due.BAD);
        for (int of10 : FAR) {
            chance(x, 1, of10, Due.BAD, Due.BAD);
        }
        // Nothing is pushed: the jams do not matter.
        for (int of10 = 0; of10 <= 10; of10++) {
            chance(new BottleLine(), 6, of10, 1, 1);
        }
    }

    /** "0 if there is an alarm now" */
    private static void chanceWithAnAlarm() {
        BottleLine x = withAlarm();
        for (int n = 1; n <= 6; n++) {
            chance(x, n, 0, 0, 1);
            chance(x, n, 5, 0, 1);
            chance(x, n, 10, 0, 1);
        }
        chance(x, 0, 5, Due.BAD, Due.BAD);
        x.jam();
        chance(x, 1, 0, 0, 1);
        x.clear();
        chance(x, 6, 10, 1, 1);
    }

    /** "(if it is jammed now, it is jammed in all of them)" */
    private static void chanceIfJammed() {
        BottleLine x = Due.lineOf(BAD_BOTTLE);
        x.step(1);
        x.jam();
        for (int of10 = 0; of10 <= 10; of10 += 5) {
            chance(x, 4, of10, 1, 1);
            chance(x, 5, of10, 0, 1);
            chance(x, 6, of10, 0, 1);
        }
        x.jam();
        chance(x, 5, 5, 1, 2);
    }

    /** "Fractions are in lowest terms with a positive denominator (0 is 0 / 1)." */
    private static void chanceInLowestTerms() {
        BottleLine x = Due.lineOf("B6123455020v504bbbbbb");
        x.step(5);
        chance(x, 6, 1, 531441, 1000000);
        chance(x, 6, 2, 4096, 15625);
        chance(x, 6, 5, 1, 64);
        chance(x, 6, 9, 1, 1000000);
        chance(x, 6, 10, 0, 1);
        chance(x, 6, 0, 1, 1);
        chance(x, 2, 4, 9, 25);
        chance(x, 3, 7, 27, 1000);
    }

    /** "Sets the random number x, which is 0 at first." */
    private static void seedAtFirst() {
        BottleLine x = new BottleLine();
        Due.is("seed(1)", x.seed(1), 0);
        Due.is("seed(2)", x.seed(2), 1);
        BottleLine drawn = new BottleLine();
        drawn.drawn(1);
        Due.is("x after the first event", drawn.seed(0), next(0));
    }

    /** "v: the new value. Returns the previous value.": any long. */
    private static void seedOfAnyLong() {
        BottleLine x = new BottleLine();
        long[] all = {Long.MAX_VALUE, Long.MIN_VALUE, -1, 1L << 32, (1L << 31) - 1, -(1L << 31) - 1, 0, 0};
        long had = 0;
        for (long v : all) {
            Due.is("seed(" + v + ")", x.seed(v), had);
            had = v;
        }
    }

    /** The document's next x, by numbers without bounds. */
    private static long next(long x) {
        BigInteger factor = new BigInteger("6364136223846793005");
        BigInteger summand = new BigInteger("1442695040888963407");
        return BigInteger.valueOf(x).multiply(factor).add(summand).mod(ROUND).longValue();
    }

    /** The event that follows on x: the bits from 33 on are never negative. */
    private static int eventAfter(long x) {
        BigInteger bits = BigInteger.valueOf(next(x)).mod(ROUND).shiftRight(33);
        return bits.mod(BigInteger.TEN).intValue();
    }

    /** "m: 1 to 20" */
    private static void drawnFrom1To20() {
        BottleLine x = new BottleLine();
        x.seed(5);
        Due.is("drawn(0)", x.drawn(0), Due.BAD);
        Due.is("drawn(-1)", x.drawn(-1), Due.BAD);
        Due.is("drawn(21)", x.drawn(21), Due.BAD);
        for (int m : FAR) {
            Due.is("drawn(" + m + ")", x.drawn(m), Due.BAD);
        }
        Due.is("x after refused calls", x.seed(5), 5);
        Due.is("drawn(1)", x.drawn(1), 0);
        Due.is("x after one event", x.seed(5), next(5));
        Due.is("drawn(20)", x.drawn(20), 0);
        long want = 5;
        for (int i = 0; i < 20; i++) {
            want = next(want);
        }
        Due.is("x after 20 events", x.seed(0), want);
    }

    /** "(long arithmetic that wraps around)" */
    private static void drawnWrapsAround() {
        BottleLine x = new BottleLine();
        long[] seeds = {Long.MAX_VALUE, Long.MIN_VALUE, -1, 1, 2, 1L << 62, -(1L << 33), Long.MAX_VALUE / 3};
        for (long seed : seeds) {
            x.seed(seed);
            x.drawn(1);
            Due.is("x after " + seed, x.seed(0), next(seed));
        }
    }

    /** "3 to 9: a step": a good bottle in the last cell is out after a step, and only then. */
    private static void drawnEachEvent() {
        BottleLine x = Due.lineOf("B6123450000c09l09b");
        x.step(6);
        int[] found = new int[10];
        for (long seed = -60; seed < 60; seed++) {
            int event = eventAfter(seed);
            found[event]++;
            x.seed(seed);
            Due.is("drawn(1) with event " + event, x.drawn(1), event >= 3 ? 1 : 0);
        }
        for (int event = 0; event < 10; event++) {
            Due.is("event " + event + " was drawn", found[event] > 0 ? 1 : 0, 1);
        }
        Due.is("only x is changed", x.about(8), 6);
        Due.is("nothing is out", x.about(11), 0);
    }

    /** "2: the alarm is cleared, or, if there is none, restart; 3 to 9: a step, if there is no alarm" */
    private static void drawnDuringAnAlarm() {
        // One good bottle is in the last cell, a bad one stops the line at the pusher before it.
        BottleLine x = Due.lineOf("B7123450000c01l09bb");
        x.jam();
        Due.is("step(99)", x.step(99), 7);
        Due.is("alarm", x.about(9), 1);
        for (long seed = -60; seed < 60; seed++) {
            int first = eventAfter(seed);
            int second = eventAfter(next(seed));
            boolean leaves = first == 2 && second >= 3;
            x.seed(seed);
            Due.is("drawn(2) with " + first + ", " + second, x.drawn(2), leaves ? 1 : 0);
        }
        Due.is("the alarm stays", x.about(9), 1);
    }

    /** "slot: 0 or 1. Returns the step number; UNKNOWN." */
    private static void keepSlots0And1() {
        BottleLine x = new BottleLine();
        Due.is("keep(-1)", x.keep(-1), Due.UNKNOWN);
        Due.is("keep(2)", x.keep(2), Due.UNKNOWN);
        for (int slot : FAR) {
            Due.is("keep(" + slot + ")", x.keep(slot), Due.UNKNOWN);
        }
        Due.is("keep(0) of nothing done", x.keep(0), 0);
        x.step(99);
        x.step(99);
        Due.is("keep(1)", x.keep(1), 198);
        Due.is("again(0)", x.again(0), 0);
        Due.is("again(1)", x.again(1), 198);
    }

    /** "UNKNOWN; LATE if nothing is kept there" */
    private static void againUnknownBeforeLate() {
        BottleLine x = new BottleLine();
        Due.is("again(-1)", x.again(-1), Due.UNKNOWN);
        Due.is("again(2)", x.again(2), Due.UNKNOWN);
        for (int slot : FAR) {
            Due.is("again(" + slot + ")", x.again(slot), Due.UNKNOWN);
        }
        Due.is("again(0)", x.again(0), Due.LATE);
        Due.is("again(1)", x.again(1), Due.LATE);
        x.jam();
        x.keep(1);
        Due.is("again(0) beside a kept one", x.again(0), Due.LATE);
        Due.is("the act stays remembered", x.about(18), 1);
        Due.is("again(1)", x.again(1), 0);
        Due.is("no act is remembered", x.about(18), 0);
        Due.is("jammed as it was kept", x.about(10), 1);
    }

    /** "Restores what was kept in a slot, which stays kept." */
    private static void againStaysKept() {
        BottleLine x = Due.lineOf("B6123455020v504bb");
        x.step(2);
        x.keep(0);
        String kept = Due.stateOf(x);
        for (int i = 1; i <= 3; i++) {
            x.set(0, i);
            x.come(2);
            x.step(i);
            x.undo();
            x.step(1);
            Due.is("again(0)", x.again(0), 2);
            Due.same("after again(0)", Due.stateOf(x), kept);
        }
        x.step(1);
        Due.is("keep(0) anew", x.keep(0), 3);
        x.step(1);
        Due.is("again(0) of the new one", x.again(0), 3);
    }

    /** "No acts are remembered then, and the slots are empty." */
    private static void slotsAfterLine() {
        BottleLine x = Due.lineOf("B6123455020v504bb");
        x.keep(0);
        x.keep(1);
        x.line();
        Due.is("again(0)", x.again(0), Due.LATE);
        Due.is("again(1)", x.again(1), Due.LATE);
        x.step(1);
        x.keep(1);
        x.write('z');
        Due.is("line() with a fault", x.line(), Due.LATE);
        Due.is("again(0) still", x.again(0), Due.LATE);
        Due.is("again(1) is kept", x.again(1), 1);
    }

    /** "Keeps bottles, marks, .., pusher, alarm, step number and counts": an alarm comes back. */
    private static void keepAnAlarm() {
        BottleLine x = withAlarm();
        Due.is("keep(1)", x.keep(1), 6);
        x.clear();
        x.jam();
        x.step(5);
        Due.is("again(1)", x.again(1), 6);
        Due.is("alarm", x.about(9), 1);
        Due.is("jammed", x.about(10), 1);
        Due.is("by hand", x.about(15), 0);
        Due.is("step(1)", x.step(1), Due.LATE);
        Due.is("clear()", x.clear(), 1);
    }
}
