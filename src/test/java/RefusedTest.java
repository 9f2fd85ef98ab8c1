/**
 * "A failed call changes nothing" and "The methods from ahead to judge, which, share and chance change nothing":
 * of two objects that were made in the same way one is asked, and then both must hold the same.
 */
public final class RefusedTest {
    private static final int[] FAR = {Integer.MIN_VALUE, Integer.MAX_VALUE};

    private interface Call {
        long on(BottleLine x);
    }

    private enum Maker {
        FULL, ALARM, MIDST, EMPTY;

        BottleLine make() {
            switch (this) {
                case FULL: return full();
                case ALARM: return alarm();
                case MIDST: return midst();
                default: return new BottleLine();
            }
        }
    }

    public static void main(String[] args) {
        fullRefuses();
        alarmRefuses();
        midstRefuses();
        emptyRefuses();
        asked();
        looked();
        Due.end("RefusedTest");
    }

    /** Text, stocks, queue and observations are full; the text has a fault; slot 1 is empty. */
    private static BottleLine full() {
        BottleLine x = Due.lineOf("B6123455020v504c99l99" + "b".repeat(24));
        for (int length = 46; length <= 90; length++) {
            x.write('z');
        }
        for (int i = 0; i < 6; i++) {
            x.see(i % 3, 3 * i, 0);
        }
        x.seed(1234567890123L);
        x.step(1);
        x.come(2);
        x.keep(0);
        return x;
    }

    /** A bad bottle stands at the jammed pusher; both slots are kept. */
    private static BottleLine alarm() {
        BottleLine x = Due.lineOf("B6123455020v504v604bbx");
        x.keep(1);
        x.jam();
        x.step(9);
        x.keep(0);
        x.see(1, 9, 0);
        x.seed(-5);
        return x;
    }

    /** Bottles, marks and samples are on the way; three acts are remembered. */
    private static BottleLine midst() {
        BottleLine x = Due.lineOf("B7123455022v504v534v484c05l04bbxb-b");
        x.keep(1);
        x.step(5);
        x.restart();
        x.step(1);
        x.keep(0);
        x.see(0, 5, 2);
        x.see(1, 9, 1);
        x.seed(77);
        return x;
    }

    private static void refused(Maker maker, String name, long want, Call call) {
        BottleLine one = maker.make();
        BottleLine other = maker.make();
        Due.is(maker + ": " + name, call.on(one), want);
        Due.is(maker + ": " + name + " once more", call.on(one), want);
        Due.same(maker + ": after " + name, Due.depthOf(one), Due.depthOf(other));
    }

    private static void fullRefuses() {
        Maker m = Maker.FULL;
        refused(m, "write(98)", Due.FULL, x -> x.write('b'));
        refused(m, "write(256)", Due.BAD, x -> x.write(256));
        refused(m, "write(-1)", Due.BAD, x -> x.write(-1));
        refused(m, "line()", Due.LATE, x -> x.line());
        refused(m, "lay(false, 1)", Due.FULL, x -> x.lay(false, 1));
        refused(m, "lay(true, 1)", Due.FULL, x -> x.lay(true, 1));
        refused(m, "lay(false, 0)", Due.BAD, x -> x.lay(false, 0));
        refused(m, "lay(true, 10)", Due.BAD, x -> x.lay(true, 10));
        refused(m, "come(0)", Due.FULL, x -> x.come(0));
        refused(m, "come(2)", Due.FULL, x -> x.come(2));
        refused(m, "come(3)", Due.BAD, x -> x.come(3));
        refused(m, "see(0, 0, 0)", Due.FULL, x -> x.see(0, 0, 0));
        refused(m, "see(0, 0, 9)", Due.FULL, x -> x.see(0, 0, 9));
        refused(m, "see(0, 21, 9)", Due.BAD, x -> x.see(0, 21, 9));
        refused(m, "again(1)", Due.LATE, x -> x.again(1));
        refused(m, "clear()", Due.LATE, x -> x.clear());
    }

    private static void alarmRefuses() {
        Maker m = Maker.ALARM;
        refused(m, "step(1)", Due.LATE, x -> x.step(1));
        refused(m, "step(99)", Due.LATE, x -> x.step(99));
        refused(m, "step(0)", Due.BAD, x -> x.step(0));
        refused(m, "goes(5, 0)", Due.NONE, x -> x.goes(5, 0));
        refused(m, "goes(0, 0)", Due.LATE, x -> x.goes(0, 0));
        refused(m, "keep(2)", Due.UNKNOWN, x -> x.keep(2));
        refused(m, "again(2)", Due.UNKNOWN, x -> x.again(2));
        refused(m, "judge(2, 400101)", Due.NONE, x -> x.judge(2, 400101));
    }

    private static void midstRefuses() {
        Maker m = Maker.MIDST;
        refused(m, "step(-1)", Due.BAD, x -> x.step(-1));
        refused(m, "step(100)", Due.BAD, x -> x.step(100));
        refused(m, "clear()", Due.LATE, x -> x.clear());
        refused(m, "set(3, 5)", Due.UNKNOWN, x -> x.set(3, 5));
        refused(m, "set(-1, 5)", Due.UNKNOWN, x -> x.set(-1, 5));
        refused(m, "set(0, 100)", Due.BAD, x -> x.set(0, 100));
        refused(m, "set(2, -1)", Due.BAD, x -> x.set(2, -1));
        refused(m, "come(-1)", Due.BAD, x -> x.come(-1));
        refused(m, "see(3, 0, 0)", Due.BAD, x -> x.see(3, 0, 0));
        refused(m, "see(0, 0, 100)", Due.BAD, x -> x.see(0, 0, 100));
        refused(m, "drawn(0)", Due.BAD, x -> x.drawn(0));
        refused(m, "drawn(21)", Due.BAD, x -> x.drawn(21));
        refused(m, "keep(-1)", Due.UNKNOWN, x -> x.keep(-1));
        refused(m, "again(-1)", Due.UNKNOWN, x -> x.again(-1));
        for (int far : FAR) {
            refused(m, "write", Due.BAD, x -> x.write(far));
            refused(m, "about", Due.BAD, x -> x.about(far));
            refused(m, "place", Due.BAD, x -> x.place(far));
            refused(m, "cell", Due.UNKNOWN, x -> x.cell(far, far));
            refused(m, "cell", Due.BAD, x -> x.cell(0, far));
            refused(m, "valve", Due.UNKNOWN, x -> x.valve(far, far));
            refused(m, "valve", Due.BAD, x -> x.valve(0, far));
            refused(m, "queue", Due.BAD, x -> x.queue(far));
            refused(m, "step", Due.BAD, x -> x.step(far));
            refused(m, "lay", Due.BAD, x -> x.lay(true, far));
            refused(m, "set", Due.UNKNOWN, x -> x.set(far, far));
            refused(m, "set", Due.BAD, x -> x.set(0, far));
            refused(m, "come", Due.BAD, x -> x.come(far));
            refused(m, "ahead", Due.BAD, x -> x.ahead(far, far));
            refused(m, "goes", Due.UNKNOWN, x -> x.goes(far, far));
            refused(m, "goes", Due.BAD, x -> x.goes(0, far));
            refused(m, "best", Due.UNKNOWN, x -> x.best(far));
            refused(m, "judge", Due.BAD, x -> x.judge(far, 101));
            refused(m, "judge", Due.BAD, x -> x.judge(3, far));
            refused(m, "see", Due.BAD, x -> x.see(far, far, far));
            refused(m, "share", Due.UNKNOWN, x -> x.share(far, true));
            refused(m, "chance", Due.BAD, x -> x.chance(far, far, true));
            refused(m, "drawn", Due.BAD, x -> x.drawn(far));
            refused(m, "keep", Due.UNKNOWN, x -> x.keep(far));
            refused(m, "again", Due.UNKNOWN, x -> x.again(far));
        }
    }

    private static void emptyRefuses() {
        Maker m = Maker.EMPTY;
        refused(m, "line()", Due.LATE, x -> x.line());
        refused(m, "clear()", Due.LATE, x -> x.clear());
        refused(m, "undo()", Due.LATE, x -> x.undo());
        refused(m, "set(0, 0)", Due.UNKNOWN, x -> x.set(0, 0));
        refused(m, "again(0)", Due.LATE, x -> x.again(0));
        refused(m, "again(1)", Due.LATE, x -> x.again(1));
        refused(m, "best(0)", Due.UNKNOWN, x -> x.best(0));
        refused(m, "share(0, true)", Due.UNKNOWN, x -> x.share(0, true));
        refused(m, "goes(0, 0)", Due.LATE, x -> x.goes(0, 0));
        refused(m, "fault()", 0, x -> x.fault());
        refused(m, "wipe()", 0, x -> x.wipe());
        refused(m, "unsee()", 0, x -> x.unsee());
    }

    private static void unchanged(String name, Call call) {
        for (Maker maker : Maker.values()) {
            BottleLine one = maker.make();
            BottleLine other = maker.make();
            long first = call.on(one);
            Due.is(maker + ": " + name + " once more", call.on(one), first);
            Due.same(maker + ": after " + name, Due.depthOf(one), Due.depthOf(other));
        }
    }

    private static void asked() {
        for (int what = 5; what <= 17; what += 3) {
            int number = what;
            unchanged("ahead(0, " + what + ")", x -> x.ahead(0, number));
            unchanged("ahead(99, " + what + ")", x -> x.ahead(99, number));
        }
        for (int cell = 0; cell <= 6; cell++) {
            int in = cell;
            unchanged("goes(" + cell + ", 0)", x -> x.goes(in, 0));
            unchanged("goes(" + cell + ", 1)", x -> x.goes(in, 1));
        }
        for (int valve = 0; valve <= 3; valve++) {
            int number = valve;
            unchanged("best(" + valve + ")", x -> x.best(number));
            unchanged("share(" + valve + ", true)", x -> x.share(number, true));
            unchanged("share(" + valve + ", false)", x -> x.share(number, false));
        }
        unchanged("needs(false)", x -> x.needs(false));
        unchanged("needs(true)", x -> x.needs(true));
        int[] rows = {105300500, 200300105, 300109400, 400500101, 500105200, 600700800, 199199199};
        for (int row : rows) {
            unchanged("judge(3, " + row + ")", x -> x.judge(3, row));
        }
        unchanged("which()", x -> x.which());
        for (int n = 1; n <= 6; n++) {
            int steps = n;
            unchanged("chance(" + n + ", 3, true)", x -> x.chance(steps, 3, true));
            unchanged("chance(" + n + ", 3, false)", x -> x.chance(steps, 3, false));
        }
        // Only x is changed by drawn, and seed puts it back.
        unchanged("drawn(20)", x -> {
            long before = x.seed(0);
            x.seed(9);
            long sum = x.drawn(20);
            x.seed(before);
            return sum;
        });
    }

    private static void looked() {
        unchanged("fault()", x -> x.fault());
        for (int what = 0; what <= 20; what += 4) {
            int number = what;
            unchanged("about(" + what + ")", x -> x.about(number));
        }
        unchanged("place(2)", x -> x.place(2));
        for (int what = 0; what <= 7; what++) {
            int number = what;
            unchanged("cell(0, " + what + ")", x -> x.cell(0, number));
        }
        unchanged("valve(0, 0)", x -> x.valve(0, 0));
        unchanged("queue(0)", x -> x.queue(0));
    }
}
