/** Promises 11 to 19: step, slip, jam, clear, restart, lay, set, come, undo. */
public final class ActsTest {
    /** A bottle without a cap comes to the pusher, in the last cell, in the sixth step. */
    private static final String BAD_BOTTLE = "B6123455020v504b";
    /** A bottle without a cap is checked in cell 4 in the fifth step; the pusher is at 6 of 0 to 7. */
    private static final String FAR_PUSHER = "B8123465020v504b";

    public static void main(String[] args) {
        step();
        stepToAlarm();
        slip();
        slipToAlarm();
        jam();
        clear();
        restart();
        lay();
        set();
        come();
        undoEach();
        undoRemembers();
        failedCallsChangeNothing();
        Due.end("ActsTest");
    }

    private static void step() {
        BottleLine x = Due.lineOf(BAD_BOTTLE);
        Due.is("step(0)", x.step(0), Due.BAD);
        Due.is("step(-1)", x.step(-1), Due.BAD);
        Due.is("step(100)", x.step(100), Due.BAD);
        Due.is("no act", x.about(18), 0);
        Due.is("no step", x.about(8), 0);
        Due.is("step(1)", x.step(1), 1);
        Due.is("step(5)", x.step(5), 5);
        Due.is("rejected", x.about(13), 1);
        Due.is("the mark is gone", x.cell(5, 0), 0);
        Due.is("the bottle is gone", x.cell(5, 1), 0);
        Due.is("step(99)", x.step(99), 99);
        Due.is("step number", x.about(8), 105);
        Due.is("three acts", x.about(18), 3);
        BottleLine sample = Due.lineOf("B6123455021v504c01l01b");
        sample.step(6);
        Due.is("sampled", sample.about(14), 1);
        Due.is("not rejected", sample.about(13), 0);
        BottleLine gap = Due.lineOf("B6123455020v504-b");
        gap.step(2);
        Due.is("a gap has no bottle", gap.cell(1, 1), 0);
        Due.is("the bottle comes after it", gap.cell(0, 1), 1);
        BottleLine turns = Due.lineOf("B9123455020v104v204v304-bbbb");
        turns.step(5);
        int[] valves = {1, 0, 2, 1};
        for (int cell = 0; cell < 4; cell++) {
            Due.is("valve of cell " + cell, turns.cell(cell, 3), valves[cell]);
        }
    }

    private static void stepToAlarm() {
        BottleLine x = Due.lineOf(BAD_BOTTLE + "b");
        x.jam();
        Due.is("step(99) to an alarm", x.step(99), 6);
        Due.is("alarm", x.about(9), 1);
        Due.is("step number", x.about(8), 6);
        Due.is("the mark stays", x.cell(5, 0), 1);
        Due.is("the bottle stays", x.cell(5, 1), 1);
        Due.is("nothing rejected", x.about(13), 0);
        Due.is("step(1) after an alarm", x.step(1), Due.LATE);
        Due.is("step(0) after an alarm", x.step(0), Due.BAD);
        Due.is("two acts", x.about(18), 2);
        x.jam();
        Due.is("step(1) after an alarm, freed", x.step(1), Due.LATE);
        x.clear();
        Due.is("step(1) after clear", x.step(1), 1);
        Due.is("the second is rejected", x.about(13), 1);
    }

    private static void slip() {
        BottleLine x = Due.lineOf("B7134565020v504bbb");
        Due.is("slip() without marks", x.slip(), 0);
        x.step(3);
        Due.is("restart", x.restart(), 2);
        int[] counts = {2, 2, 2, 2, 2, 1, 0};
        for (int i = 0; i < counts.length; i++) {
            Due.is("slip() number " + i, x.slip(), counts[i]);
            for (int cell = 0; cell < 7; cell++) {
                boolean marked = cell == i + 1 || cell == i + 2;
                Due.is("mark of " + cell + " after slip " + i, x.cell(cell, 0), marked ? 1 : 0);
            }
        }
        Due.is("the bottles stay", x.about(17), 7);
        Due.is("no step", x.about(8), 3);
        Due.is("acts", x.about(18), 10);
    }

    private static void slipToAlarm() {
        BottleLine x = Due.lineOf(FAR_PUSHER);
        x.step(5);
        Due.is("mark at the check", x.cell(4, 0), 1);
        Due.is("slip()", x.slip(), 1);
        Due.is("slipped mark", x.cell(5, 0), 1);
        Due.is("step(9) to the alarm", x.step(9), 1);
        Due.is("alarm without a bottle", x.about(9), 1);
        Due.is("slip() during an alarm", x.slip(), 1);
        Due.is("the alarm stays", x.about(9), 1);
        Due.is("slip() at the end", x.slip(), 0);
    }

    private static void jam() {
        BottleLine x = new BottleLine();
        Due.is("jam()", x.jam(), 1);
        Due.is("about(10)", x.about(10), 1);
        Due.is("jam() again", x.jam(), 0);
        Due.is("about(10) again", x.about(10), 0);
        Due.is("acts", x.about(18), 2);
    }

    private static void clear() {
        BottleLine x = Due.lineOf(BAD_BOTTLE);
        Due.is("clear() without an alarm", x.clear(), Due.LATE);
        Due.is("no act", x.about(18), 0);
        x.jam();
        x.step(6);
        Due.is("clear() with a bottle", x.clear(), 1);
        Due.is("by hand", x.about(15), 1);
        Due.is("no alarm", x.about(9), 0);
        Due.is("no mark", x.cell(5, 0), 0);
        Due.is("no bottle", x.cell(5, 1), 0);
        Due.is("still jammed", x.about(10), 1);
        Due.is("clear() again", x.clear(), Due.LATE);
        BottleLine far = Due.lineOf(FAR_PUSHER);
        far.step(5);
        far.slip();
        far.step(1);
        Due.is("clear() without a bottle", far.clear(), 0);
        Due.is("not by hand", far.about(15), 0);
        Due.is("no mark", far.cell(6, 0), 0);
        Due.is("no alarm", far.about(9), 0);
        far.step(3);
        Due.is("the bottle escapes", far.about(12), 1);
    }

    private static void restart() {
        BottleLine x = Due.lineOf("B8345675020v504bb-bb");
        Due.is("restart() without bottles", x.restart(), 0);
        x.step(5);
        Due.is("restart()", x.restart(), 3);
        int[] marks = {1, 1, 0, 1, 0, 0, 0, 0};
        for (int cell = 0; cell < 8; cell++) {
            Due.is("mark of " + cell, x.cell(cell, 0), marks[cell]);
        }
        Due.is("restart() again", x.restart(), 3);
        x.step(1);
        Due.is("restart() with older marks", x.restart(), 3);
        x.slip();
        Due.is("restart() with slipped marks", x.restart(), 4);
        Due.is("restart() is an act", x.about(18), 8);
        BottleLine sample = Due.lineOf("B6123455021v504c09l09bbbbbb");
        sample.step(5);
        Due.is("restart() beside a sample", sample.restart(), 3);
        Due.is("the sample stays", sample.cell(4, 0), 2);
    }

    private static void lay() {
        for (boolean labels : new boolean[] {false, true}) {
            BottleLine x = Due.lineOf("B6123455020c03l05");
            int had = labels ? 5 : 3;
            Due.is("lay 0", x.lay(labels, 0), Due.BAD);
            Due.is("lay 10", x.lay(labels, 10), Due.BAD);
            Due.is("lay -1", x.lay(labels, -1), Due.BAD);
            Due.is("lay 1", x.lay(labels, 1), had + 1);
            Due.is("lay 9", x.lay(labels, 9), had + 10);
            Due.is("its stock", x.about(labels ? 6 : 5), had + 10);
            Due.is("the other stock", x.about(labels ? 5 : 6), labels ? 3 : 5);
            Due.is("acts", x.about(18), 2);
            Due.write(x, labels ? "B6123455020l90" : "B6123455020c90");
            x.line();
            Due.is("lay to 99", x.lay(labels, 9), 99);
            Due.is("lay over 99", x.lay(labels, 1), Due.FULL);
            Due.is("lay 10 over 99", x.lay(labels, 10), Due.BAD);
            Due.is("stock at most 99", x.about(labels ? 6 : 5), 99);
            Due.is("one act", x.about(18), 1);
            Due.is("the other can still be laid", x.lay(!labels, 9), 9);
        }
    }

    private static void set() {
        BottleLine x = Due.lineOf("B6123455020v504v313");
        Due.is("set(0, 99)", x.set(0, 99), 50);
        Due.is("set(0, 0)", x.set(0, 0), 99);
        Due.is("set(1, 7)", x.set(1, 7), 31);
        Due.is("valve(0, 0)", x.valve(0, 0), 0);
        Due.is("valve(1, 0)", x.valve(1, 0), 7);
        Due.is("set(2, 5)", x.set(2, 5), Due.UNKNOWN);
        Due.is("set(-1, 5)", x.set(-1, 5), Due.UNKNOWN);
        Due.is("set(2, 100)", x.set(2, 100), Due.UNKNOWN);
        Due.is("set(1, 100)", x.set(1, 100), Due.BAD);
        Due.is("set(1, -1)", x.set(1, -1), Due.BAD);
        Due.is("acts", x.about(18), 3);
        Due.is("set without valves", new BottleLine().set(0, 0), Due.UNKNOWN);
    }

    private static void come() {
        BottleLine x = new BottleLine();
        Due.is("come(-1)", x.come(-1), Due.BAD);
        Due.is("come(3)", x.come(3), Due.BAD);
        for (int i = 0; i < 24; i++) {
            Due.is("come number " + i, x.come(i % 3), i + 1);
        }
        Due.is("come to 25", x.come(1), Due.FULL);
        Due.is("come(3) to 25", x.come(3), Due.BAD);
        for (int i = 0; i < 24; i++) {
            Due.is("queue(" + i + ")", x.queue(i), i % 3);
        }
        x.step(1);
        Due.is("come after a step", x.come(2), 24);
        Due.is("it is the last", x.queue(23), 2);
        Due.is("the first has gone", x.queue(0), 1);
    }

    private static void undoEach() {
        for (int kind = 0; kind < 8; kind++) {
            BottleLine x = Due.lineOf("B8123465021v524v404c05l05bxb-bbxb");
            x.step(5);
            x.restart();
            if (kind == 3) {
                x.jam();
                x.step(9);
            }
            String before = Due.stateOf(x);
            int acts = x.about(18);
            switch (kind) {
                case 0: x.step(7); break;
                case 1: x.slip(); break;
                case 2: x.jam(); break;
                case 3: Due.is("clear() to undo", x.clear(), 1); break;
                case 4: x.restart(); break;
                case 5: x.lay(true, 4); break;
                case 6: x.set(1, 3); break;
                default: x.come(2); break;
            }
            Due.is("kind " + kind + " is an act", x.about(18), acts + 1);
            Due.is("undo() of kind " + kind, x.undo(), acts);
            Due.same("after undo() of kind " + kind, Due.stateOf(x), before);
        }
    }

    private static String glance(BottleLine x) {
        return x.about(8) + " steps, cells " + x.about(17) + ", setting " + x.valve(0, 0);
    }

    private static void undoRemembers() {
        BottleLine x = Due.lineOf("B6123455020v504c90b");
        Due.is("undo() without acts", x.undo(), Due.LATE);
        String[] before = new String[20];
        for (int i = 0; i < 20; i++) {
            before[i] = glance(x);
            if (i % 2 == 0) {
                x.step(1);
            } else {
                x.set(0, i);
            }
            Due.is("remembered", x.about(18), Math.min(14, i + 1));
        }
        for (int i = 19; i >= 6; i--) {
            Due.is("undo() of act " + i, x.undo(), i - 6);
            Due.same("before act " + i, glance(x), before[i]);
        }
        Due.is("undo() of a forgotten act", x.undo(), Due.LATE);
        Due.same("after too many undos", glance(x), before[6]);
        x.jam();
        Due.is("undo() after new acts", x.undo(), 0);
        Due.same("after the last undo", glance(x), before[6]);
    }

    private static void failedCallsChangeNothing() {
        BottleLine x = Due.lineOf("B6123455020v504c99l99" + "b".repeat(24));
        x.jam();
        x.see(0, 0, 0);
        String before = Due.wholeOf(x);
        x.write(256);
        x.clear();
        x.step(0);
        x.step(100);
        x.lay(false, 1);
        x.lay(true, 1);
        x.lay(true, 0);
        x.set(1, 1);
        x.set(0, 100);
        x.come(1);
        x.come(3);
        x.keep(2);
        x.again(0);
        x.again(2);
        x.see(3, 0, 0);
        x.drawn(0);
        Due.same("after failed calls", Due.wholeOf(x), before);
        Due.is("x after failed calls", x.seed(0), 0);
    }
}
