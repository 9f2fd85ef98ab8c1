/** Promises 28 to 31: share, chance, seed, drawn. */
public final class ChanceTest {
    private static final String STOCKS = "c09l09";

    public static void main(String[] args) {
        share();
        shareNegative();
        shareWithinThirty();
        shareUnknown();
        chance();
        chanceJammedOrAlarm();
        chanceBad();
        seed();
        drawn();
        drawnEvents();
        Due.end("ChanceTest");
    }

    private static void share(BottleLine x, int valve, int upper, int lower) {
        Due.is("share(" + valve + ", true)", x.share(valve, true), upper);
        Due.is("share(" + valve + ", false)", x.share(valve, false), lower);
    }

    private static void share() {
        BottleLine one = Due.lineOf("B6123455020v504" + STOCKS + "bb");
        share(one, 0, 2, 1);
        BottleLine two = Due.lineOf("B6123455020v504v604" + STOCKS + "bbb");
        share(two, 0, 2, 1);
        share(two, 1, 0, 1);
        // Each second good bottle is a sample: 1 of 2 is out, 2 of 3 are, and so on.
        BottleLine half = Due.lineOf("B6123455022v504v504" + STOCKS + "bb");
        share(half, 0, 1, 2);
        share(half, 1, 1, 2);
        BottleLine third = Due.lineOf("B6123455022v504v504v504" + STOCKS + "bbb");
        share(third, 0, 2, 3);
        share(third, 2, 2, 3);
        BottleLine quarter = Due.lineOf("B6123455023v504v504v504v504" + STOCKS + "bbbb");
        share(quarter, 1, 3, 4);
        share(quarter, 3, 3, 4);
        // Valve 0 fills two of three: out is 0, 1 (valve 0 alone), 1 (valve 1 alone), 2 (both).
        BottleLine uneven = Due.lineOf("B6123455022v504v504" + STOCKS + "bbb");
        share(uneven, 0, 1, 1);
        share(uneven, 1, 1, 1);
        BottleLine oneCap = Due.lineOf("B6123455020v504v504c01l09bb");
        share(oneCap, 0, 1, 1);
        share(oneCap, 1, 0, 1);
        BottleLine drifting = Due.lineOf("B6123450220v009" + STOCKS + "b");
        // Off it fills with 0 (without the drift), which is good for the target 2 and the tolerance 2.
        share(drifting, 0, -1, 1);
    }

    private static void shareNegative() {
        BottleLine one = Due.lineOf("B6123450020v504" + STOCKS + "bb");
        share(one, 0, -2, 1);
        BottleLine exact = Due.lineOf("B6123450000v504v039" + STOCKS + "bbx");
        share(exact, 0, -2, 1);
        share(exact, 1, -1, 1);
        BottleLine two = Due.lineOf("B6123450022v504v504" + STOCKS + "bb");
        share(two, 0, -1, 2);
        share(two, 1, -1, 2);
        BottleLine alarm = Due.lineOf("B6123455020v604" + STOCKS + "bb");
        alarm.jam();
        alarm.step(6);
        share(alarm, 0, 0, 1);
    }

    private static void shareWithinThirty() {
        String late = "5020v504" + STOCKS + "-".repeat(23) + "b";
        share(Due.lineOf("B612345" + late), 0, 1, 1);
        share(Due.lineOf("B712345" + late), 0, 0, 1);
    }

    private static void shareUnknown() {
        for (boolean upper : new boolean[] {true, false}) {
            BottleLine x = Due.lineOf("B6123455020v504v504" + STOCKS + "bb");
            Due.is("share(2)", x.share(2, upper), Due.UNKNOWN);
            Due.is("share(-1)", x.share(-1, upper), Due.UNKNOWN);
            Due.is("share(31)", x.share(31, upper), Due.UNKNOWN);
            Due.is("share(0) without valves", new BottleLine().share(0, upper), Due.UNKNOWN);
        }
    }

    private static void chance(BottleLine x, int n, int of10, int upper, int lower) {
        String call = "chance(" + n + ", " + of10;
        Due.is(call + ", true)", x.chance(n, of10, true), upper);
        Due.is(call + ", false)", x.chance(n, of10, false), lower);
    }

    private static void chance() {
        // Six bottles without caps: the first is pushed in the sixth step, then one in each step.
        BottleLine x = Due.lineOf("B6123455020v504bbbbbb");
        chance(x, 5, 10, 1, 1);
        chance(x, 6, 10, 0, 1);
        chance(x, 6, 3, 7, 10);
        chance(x, 6, 0, 1, 1);
        x.step(5);
        chance(x, 1, 3, 7, 10);
        chance(x, 2, 3, 49, 100);
        chance(x, 2, 5, 1, 4);
        chance(x, 3, 8, 1, 125);
        chance(x, 6, 1, 531441, 1000000);
        chance(x, 6, 9, 1, 1000000);
        chance(x, 6, 6, 64, 15625);
        chance(x, 6, 10, 0, 1);
        chance(x, 6, 0, 1, 1);
        BottleLine samples = Due.lineOf("B6123455022v504c09l09bbbbbb");
        samples.step(5);
        chance(samples, 6, 1, 729, 1000);
        chance(samples, 1, 10, 1, 1);
        BottleLine slipped = Due.lineOf("B8123465020v504b");
        slipped.step(5);
        slipped.slip();
        chance(slipped, 1, 0, 0, 1);
        chance(slipped, 6, 5, 0, 1);
    }

    private static void chanceJammedOrAlarm() {
        BottleLine x = Due.lineOf("B6123455020v504b");
        x.step(1);
        x.jam();
        chance(x, 4, 0, 1, 1);
        chance(x, 4, 10, 1, 1);
        chance(x, 5, 0, 0, 1);
        chance(x, 6, 5, 0, 1);
        x.step(5);
        chance(x, 1, 0, 0, 1);
        chance(x, 6, 10, 0, 1);
        x.clear();
        chance(x, 6, 10, 1, 1);
    }

    private static void chanceBad() {
        for (boolean upper : new boolean[] {true, false}) {
            BottleLine x = Due.lineOf("B6123455020v504b");
            Due.is("chance(0, 5)", x.chance(0, 5, upper), Due.BAD);
            Due.is("chance(7, 5)", x.chance(7, 5, upper), Due.BAD);
            Due.is("chance(1, -1)", x.chance(1, -1, upper), Due.BAD);
            Due.is("chance(1, 11)", x.chance(1, 11, upper), Due.BAD);
            Due.is("chance(6, 10)", x.chance(6, 10, upper), upper ? 0 : 1);
        }
    }

    private static void seed() {
        BottleLine x = new BottleLine();
        Due.is("seed(most)", x.seed(Long.MAX_VALUE), 0);
        Due.is("seed(least)", x.seed(Long.MIN_VALUE), Long.MAX_VALUE);
        Due.is("seed(-1)", x.seed(-1), Long.MIN_VALUE);
        Due.is("seed(0)", x.seed(0), -1);
        x.drawn(1);
        Due.is("x after one event", x.seed(0), 1442695040888963407L);
        x.drawn(2);
        Due.is("x after two events", x.seed(0), 1876011003808476466L);
    }

    private static void drawn(BottleLine x, long seed, int m, int want) {
        x.seed(seed);
        Due.is("drawn(" + m + ") from " + seed, x.drawn(m), want);
    }

    private static void drawn() {
        BottleLine x = Due.lineOf("B6123455020v504" + STOCKS + "bb");
        x.seed(3);
        Due.is("drawn(0)", x.drawn(0), Due.BAD);
        Due.is("drawn(21)", x.drawn(21), Due.BAD);
        Due.is("drawn(-1)", x.drawn(-1), Due.BAD);
        Due.is("x after bad calls", x.seed(0), 3);
        x.step(6);
        // From 3 the events are 9, 3, 5, 8, 4, 3, 5, 5: steps.
        drawn(x, 3, 1, 1);
        drawn(x, 3, 2, 3);
        drawn(x, 3, 3, 5);
        drawn(x, 3, 8, 15);
        Due.is("drawn(20) of nothing", new BottleLine().drawn(20), 0);
        x.seed(3);
        Due.is("drawn(1), first", x.drawn(1), 1);
        Due.is("drawn(1), second from the same state", x.drawn(1), 1);
    }

    private static void drawnEvents() {
        // From 29: slip, and then steps. The slipped mark is lost and the bottle escapes.
        BottleLine slips = Due.lineOf("B6123455020v504b");
        slips.step(5);
        drawn(slips, 29, 2, 0);
        drawn(slips, 29, 3, -1);
        drawn(slips, 29, 4, -2);
        // From 21: 1, 9, 8, 6, 5, the pusher and then steps; from 5: 2, 3, 4, 5, 5, clear or restart and then steps.
        BottleLine jams = Due.lineOf("B6123455020v604v504" + STOCKS + "bb");
        jams.step(5);
        drawn(jams, 21, 5, 0);
        drawn(jams, 5, 5, 2);
        jams.jam();
        drawn(jams, 21, 5, 2);
        jams.step(1);
        Due.is("alarm", jams.about(9), 1);
        drawn(jams, 3, 8, 0);
        drawn(jams, 5, 5, 3);
        // From 10: 9, 2, 3, 4, 4, 9, 5, 5, a step, restart, steps: the marked bottle is rejected.
        BottleLine restarts = Due.lineOf("B6123455020v504" + STOCKS + "b");
        restarts.step(1);
        drawn(restarts, 10, 8, 0);
        drawn(restarts, 3, 8, 3);
    }
}
