/** The boundary cases of promises 11 to 19; above each test the sentence that names them. */
public final class ActsEdgesTest {
    private static final int[] FAR = {-1000000, Integer.MIN_VALUE, Integer.MAX_VALUE, 1000000, 256, -256};
    /** A bottle without a cap comes to the pusher, in the last cell, in the sixth step. */
    private static final String BAD_BOTTLE = "B6123455020v504b";

    public static void main(String[] args) {
        stepFrom1To99();
        stepBadBeforeLate();
        stepsUpToAnAlarm();
        manyStepsAreOneAct();
        slipWithoutMarks();
        slipWithAllMarks();
        slipDuringAnAlarm();
        jamDuringAnAlarm();
        clearWithoutAnAlarm();
        clearWithoutABottle();
        clearAfterASlip();
        clearTakesWhatSlippedToThePusher();
        restartWithoutBottles();
        restartUpToTheScale();
        restartDuringAnAlarm();
        layFrom1To9();
        layUpTo99();
        layBadBeforeFull();
        setFrom0To99();
        setUnknownBeforeBad();
        comeFrom0To2();
        comeUpTo24();
        comeAgainAfterAStep();
        undoOfNothing();
        undoOfFourteen();
        undoGoesRound();
        undoIsNoAct();
        undoAfterAnAlarm();
        refusedCallsAreNoActs();
        otherCallsAreNoActs();
        againAndLineForget();
        all512Calls();
        Due.end("ActsEdgesTest");
    }

    private static BottleLine withAlarm() {
        BottleLine x = Due.lineOf(BAD_BOTTLE);
        x.jam();
        Due.is("step(6)", x.step(6), 6);
        Due.is("alarm", x.about(9), 1);
        return x;
    }

    /** "n: 1 to 99" */
    private static void stepFrom1To99() {
        BottleLine x = new BottleLine();
        Due.is("step(0)", x.step(0), Due.BAD);
        Due.is("step(-1)", x.step(-1), Due.BAD);
        Due.is("step(100)", x.step(100), Due.BAD);
        for (int n : FAR) {
            Due.is("step(" + n + ")", x.step(n), Due.BAD);
        }
        Due.is("no step", x.about(8), 0);
        Due.is("step(1)", x.step(1), 1);
        Due.is("step(99)", x.step(99), 99);
        Due.is("steps", x.about(8), 100);
        Due.is("acts", x.about(18), 2);
    }

    /** "BAD; LATE if there is an alarm" */
    private static void stepBadBeforeLate() {
        BottleLine x = withAlarm();
        Due.is("step(0)", x.step(0), Due.BAD);
        Due.is("step(100)", x.step(100), Due.BAD);
        Due.is("step(1)", x.step(1), Due.LATE);
        Due.is("step(99)", x.step(99), Due.LATE);
        Due.is("steps", x.about(8), 6);
        Due.is("acts", x.about(18), 2);
    }

    /** "Does n steps, but none after an alarm." */
    private static void stepsUpToAnAlarm() {
        for (int n = 5; n <= 8; n++) {
            BottleLine x = Due.lineOf(BAD_BOTTLE + "bbb");
            x.jam();
            Due.is("step(" + n + ")", x.step(n), Math.min(6, n));
            Due.is("alarm after " + n, x.about(9), n < 6 ? 0 : 1);
            Due.is("steps after " + n, x.about(8), Math.min(6, n));
            Due.is("queue after " + n, x.about(7), 0);
        }
    }

    /** "Each successful call of step .. is an act." */
    private static void manyStepsAreOneAct() {
        BottleLine x = Due.lineOf(BAD_BOTTLE);
        String begun = Due.stateOf(x);
        x.step(99);
        Due.is("acts", x.about(18), 1);
        Due.is("undo()", x.undo(), 0);
        Due.same("after undo()", Due.stateOf(x), begun);
    }

    /** "Returns how many marks are not 0 then." */
    private static void slipWithoutMarks() {
        BottleLine x = new BottleLine();
        Due.is("slip()", x.slip(), 0);
        Due.is("it is an act", x.about(18), 1);
    }

    /** "the marks slip if all of them move to the next cell as in a step": the last one is lost, cell 0 gets 0. */
    private static void slipWithAllMarks() {
        BottleLine x = Due.lineOf("B6123455020v504bb");
        x.step(2);
        for (int marks = 2; marks <= 6; marks++) {
            Due.is("restart()", x.restart(), marks);
            Due.is("slip()", x.slip(), Math.min(5, marks));
            Due.is("mark of cell 0", x.cell(0, 0), 0);
            Due.is("mark of cell " + Math.min(5, marks), x.cell(Math.min(5, marks), 0), 1);
        }
        for (int marks = 4; marks >= 0; marks--) {
            Due.is("slip() to fewer", x.slip(), marks);
        }
        Due.is("slip() of none", x.slip(), 0);
        Due.is("the bottles stay", x.about(17), 3);
    }

    /** "Lets the marks slip.": the document asks for no state in which it is refused. */
    private static void slipDuringAnAlarm() {
        BottleLine x = withAlarm();
        Due.is("slip()", x.slip(), 0);
        Due.is("the alarm stays", x.about(9), 1);
        Due.is("the bottle stays", x.cell(5, 1), 1);
        Due.is("step(1)", x.step(1), Due.LATE);
    }

    /** "Jams the pusher, or frees it if it is jammed." */
    private static void jamDuringAnAlarm() {
        BottleLine x = withAlarm();
        Due.is("jam() frees", x.jam(), 0);
        Due.is("the alarm stays", x.about(9), 1);
        Due.is("the mark stays", x.cell(5, 0), 1);
        Due.is("jam() jams", x.jam(), 1);
        Due.is("jam() frees again", x.jam(), 0);
    }

    /** "LATE if there is no alarm" */
    private static void clearWithoutAnAlarm() {
        BottleLine x = Due.lineOf(BAD_BOTTLE);
        Due.is("clear() at first", x.clear(), Due.LATE);
        x.step(5);
        x.slip();
        Due.is("a mark at r", x.cell(5, 0), 1);
        Due.is("clear() with a mark only", x.clear(), Due.LATE);
        Due.is("the mark stays", x.cell(5, 0), 1);
        x.step(1);
        x.jam();
        Due.is("clear() with a bottle and a jam only", x.clear(), Due.LATE);
        Due.is("the bottle stays", x.cell(5, 1), 1);
        Due.is("not by hand", x.about(15), 0);
        BottleLine twice = withAlarm();
        Due.is("clear()", twice.clear(), 1);
        Due.is("clear() again", twice.clear(), Due.LATE);
        Due.is("by hand", twice.about(15), 1);
    }

    /** "Returns 1 if a bottle was taken away, 0 if not" */
    private static void clearWithoutABottle() {
        BottleLine x = Due.lineOf("B7123465020v504b");
        x.step(5);
        x.slip();
        Due.is("step(1) to an alarm", x.step(1), 1);
        Due.is("clear()", x.clear(), 0);
        Due.is("by hand", x.about(15), 0);
        Due.is("mark at r", x.cell(6, 0), 0);
        Due.is("no alarm", x.about(9), 0);
        Due.is("the bottle stays in its cell", x.about(17), 32);
        Due.is("step(1)", x.step(1), 1);
    }

    /** "a bottle at r is taken away": though its mark has slipped away. */
    private static void clearAfterASlip() {
        BottleLine x = withAlarm();
        x.slip();
        Due.is("no mark at r", x.cell(5, 0), 0);
        Due.is("clear()", x.clear(), 1);
        Due.is("by hand", x.about(15), 1);
        Due.is("no bottle", x.about(17), 0);
    }

    /** "the mark at r becomes 0": whichever it is then, and no other one. */
    private static void clearTakesWhatSlippedToThePusher() {
        BottleLine x = Due.lineOf("B7123455020v504bb");
        x.jam();
        x.step(6);
        Due.is("slip()", x.slip(), 2);
        Due.is("clear()", x.clear(), 1);
        Due.is("mark at r", x.cell(5, 0), 0);
        Due.is("mark behind r", x.cell(6, 0), 1);
        Due.is("the other bottle", x.about(17), 16);
    }

    /** "Returns how many marks are not 0 then." */
    private static void restartWithoutBottles() {
        BottleLine x = new BottleLine();
        Due.is("restart()", x.restart(), 0);
        Due.is("it is an act", x.about(18), 1);
        BottleLine past = Due.lineOf(BAD_BOTTLE);
        past.step(3);
        Due.is("restart() with a bottle behind w", past.restart(), 0);
    }

    /** "the mark becomes 1 in each of the cells 0 to w in which there is a bottle" */
    private static void restartUpToTheScale() {
        for (int w = 1; w <= 4; w++) {
            BottleLine x = Due.lineOf("B9" + w + "5678" + "5020v504" + "b".repeat(9));
            x.step(6);
            Due.is("restart() with w " + w, x.restart(), w + 1);
            for (int cell = 0; cell < 9; cell++) {
                Due.is("mark of " + cell + " with w " + w, x.cell(cell, 0), cell <= w ? 1 : 0);
            }
        }
    }

    /** "Restarts.": it is not refused during an alarm, and ends none. */
    private static void restartDuringAnAlarm() {
        BottleLine x = Due.lineOf(BAD_BOTTLE + "bbbbb");
        x.jam();
        x.step(6);
        Due.is("restart()", x.restart(), 4);
        Due.is("the alarm stays", x.about(9), 1);
        Due.is("mark of cell 0", x.cell(0, 0), 1);
        Due.is("mark of cell 1", x.cell(1, 0), 1);
        Due.is("mark of cell 2", x.cell(2, 0), 0);
    }

    /** "n: 1 to 9" */
    private static void layFrom1To9() {
        for (boolean labels : new boolean[] {false, true}) {
            BottleLine x = new BottleLine();
            Due.is("lay 0", x.lay(labels, 0), Due.BAD);
            Due.is("lay -1", x.lay(labels, -1), Due.BAD);
            Due.is("lay 10", x.lay(labels, 10), Due.BAD);
            for (int n : FAR) {
                Due.is("lay " + n, x.lay(labels, n), Due.BAD);
            }
            Due.is("lay 1", x.lay(labels, 1), 1);
            Due.is("lay 9", x.lay(labels, 9), 10);
            Due.is("stock", x.about(labels ? 6 : 5), 10);
            Due.is("the other stock", x.about(labels ? 5 : 6), 0);
            Due.is("acts", x.about(18), 2);
        }
    }

    /** "FULL if it would be greater than 99" */
    private static void layUpTo99() {
        for (boolean labels : new boolean[] {false, true}) {
            BottleLine x = new BottleLine();
            for (int i = 1; i <= 10; i++) {
                Due.is("lay 9", x.lay(labels, 9), 9 * i);
            }
            Due.is("lay to 91", x.lay(labels, 1), 91);
            Due.is("lay to 100", x.lay(labels, 9), Due.FULL);
            Due.is("stock is as before", x.about(labels ? 6 : 5), 91);
            Due.is("lay to 99", x.lay(labels, 8), 99);
            for (int n = 1; n <= 9; n++) {
                Due.is("lay " + n + " over 99", x.lay(labels, n), Due.FULL);
            }
            Due.is("stock", x.about(labels ? 6 : 5), 99);
            Due.is("the other stock has room", x.lay(!labels, 9), 9);
        }
    }

    /** "BAD; FULL" */
    private static void layBadBeforeFull() {
        for (boolean labels : new boolean[] {false, true}) {
            BottleLine x = Due.lineOf("B6123455020c99l99");
            Due.is("lay 0", x.lay(labels, 0), Due.BAD);
            Due.is("lay 10", x.lay(labels, 10), Due.BAD);
            Due.is("lay -99", x.lay(labels, -99), Due.BAD);
            Due.is("lay 1", x.lay(labels, 1), Due.FULL);
        }
    }

    /** "v: 0 to 99. Returns the previous setting" */
    private static void setFrom0To99() {
        BottleLine x = Due.lineOf("B6123455020v504v604v704v804");
        for (int valve = 0; valve < 4; valve++) {
            int had = 50 + 10 * valve;
            Due.is("set -1", x.set(valve, -1), Due.BAD);
            Due.is("set 100", x.set(valve, 100), Due.BAD);
            for (int v : FAR) {
                Due.is("set " + v, x.set(valve, v), Due.BAD);
            }
            Due.is("setting is as before", x.valve(valve, 0), had);
            Due.is("set 0", x.set(valve, 0), had);
            Due.is("set 99", x.set(valve, 99), 0);
            Due.is("set 99 again", x.set(valve, 99), 99);
            Due.is("setting", x.valve(valve, 0), 99);
            Due.is("drift", x.valve(valve, 1), 4);
        }
        Due.is("acts", x.about(18), 12);
    }

    /** "UNKNOWN; BAD" */
    private static void setUnknownBeforeBad() {
        BottleLine x = Due.lineOf("B6123455020v504v604v704");
        for (int valve : new int[] {-1, 3, 4, Integer.MIN_VALUE, Integer.MAX_VALUE}) {
            Due.is("set(" + valve + ", 50)", x.set(valve, 50), Due.UNKNOWN);
            Due.is("set(" + valve + ", -1)", x.set(valve, -1), Due.UNKNOWN);
            Due.is("set(" + valve + ", 100)", x.set(valve, 100), Due.UNKNOWN);
        }
        Due.is("no act", x.about(18), 0);
        Due.is("set(0, 100) without valves", new BottleLine().set(0, 100), Due.UNKNOWN);
        Due.is("set(0, 50) without valves", new BottleLine().set(0, 50), Due.UNKNOWN);
    }

    /** "what: 0 a gap, 1 a bottle, 2 a leaking bottle" */
    private static void comeFrom0To2() {
        BottleLine x = new BottleLine();
        Due.is("come(-1)", x.come(-1), Due.BAD);
        Due.is("come(3)", x.come(3), Due.BAD);
        for (int what : FAR) {
            Due.is("come(" + what + ")", x.come(what), Due.BAD);
        }
        Due.is("no entry", x.about(7), 0);
        Due.is("no act", x.about(18), 0);
        for (int what = 0; what <= 2; what++) {
            Due.is("come(" + what + ")", x.come(what), what + 1);
        }
        x.step(3);
        int[] leaks = {1, 0, 0};
        for (int cell = 0; cell < 3; cell++) {
            Due.is("bottle in " + cell, x.cell(cell, 1), cell == 2 ? 0 : 1);
            Due.is("leaking in " + cell, x.cell(cell, 6), leaks[cell]);
        }
    }

    /** "FULL if there are already 24" */
    private static void comeUpTo24() {
        BottleLine x = Due.lineOf("B6123455020" + "b".repeat(22));
        Due.is("come to 23", x.come(0), 23);
        Due.is("come to 24", x.come(2), 24);
        for (int what = 0; what <= 2; what++) {
            Due.is("come(" + what + ") to 25", x.come(what), Due.FULL);
        }
        Due.is("come(3) to 25", x.come(3), Due.BAD);
        Due.is("come(-1) to 25", x.come(-1), Due.BAD);
        Due.is("entries", x.about(7), 24);
        Due.is("the last entry", x.queue(23), 2);
        Due.is("acts", x.about(18), 2);
    }

    /** "its first entry is removed": then there is room for one more, and for one only. */
    private static void comeAgainAfterAStep() {
        BottleLine x = Due.lineOf("B6123455020" + "b".repeat(24));
        Due.is("come to 25", x.come(1), Due.FULL);
        x.step(1);
        Due.is("come to 24", x.come(2), 24);
        Due.is("come to 25 again", x.come(1), Due.FULL);
        x.step(24);
        Due.is("entries", x.about(7), 0);
        Due.is("the last one came", x.cell(0, 6), 1);
        Due.is("come to 1", x.come(0), 1);
    }

    /** "LATE if there is none" */
    private static void undoOfNothing() {
        BottleLine x = new BottleLine();
        Due.is("undo()", x.undo(), Due.LATE);
        x.jam();
        Due.is("undo() of one", x.undo(), 0);
        Due.is("undo() of none", x.undo(), Due.LATE);
        Due.is("not jammed", x.about(10), 0);
    }

    /** "The latest 14 acts are remembered" */
    private static void undoOfFourteen() {
        for (int acts = 13; acts <= 16; acts++) {
            BottleLine x = Due.lineOf("B6123455020v004");
            for (int i = 1; i <= acts; i++) {
                x.set(0, i);
            }
            int known = Math.min(14, acts);
            Due.is("remembered of " + acts, x.about(18), known);
            for (int left = known - 1; left >= 0; left--) {
                Due.is("undo()", x.undo(), left);
                Due.is("setting", x.valve(0, 0), acts - known + left);
            }
            Due.is("undo() of none", x.undo(), Due.LATE);
            Due.is("the oldest acts stay done", x.valve(0, 0), acts - known);
        }
    }

    /** What is remembered goes round in a row of 14: it is the same after any number of acts and undos. */
    private static void undoGoesRound() {
        BottleLine x = Due.lineOf("B6123455020v004");
        for (int i = 1; i <= 40; i++) {
            x.set(0, i);
        }
        for (int i = 39; i >= 35; i--) {
            x.undo();
            Due.is("undone to " + i, x.valve(0, 0), i);
        }
        Due.is("remembered", x.about(18), 9);
        x.set(0, 77);
        Due.is("remembered with a new one", x.about(18), 10);
        for (int i = 35; i >= 26; i--) {
            Due.is("undo()", x.undo(), i - 26);
            Due.is("undone to " + i, x.valve(0, 0), i);
        }
        Due.is("undo() of none", x.undo(), Due.LATE);
        for (int i = 50; i <= 63; i++) {
            x.set(0, i);
        }
        Due.is("remembered again", x.about(18), 14);
        for (int i = 62; i >= 50; i--) {
            x.undo();
            Due.is("undone to " + i, x.valve(0, 0), i);
        }
        Due.is("undo() of the last", x.undo(), 0);
        Due.is("undone to 26", x.valve(0, 0), 26);
    }

    /** "which is not remembered any more then": an undo cannot be undone. */
    private static void undoIsNoAct() {
        BottleLine x = new BottleLine();
        x.come(1);
        x.jam();
        x.undo();
        Due.is("remembered", x.about(18), 1);
        Due.is("undo()", x.undo(), 0);
        Due.is("no entry", x.about(7), 0);
        Due.is("undo() of none", x.undo(), Due.LATE);
    }

    /** "pusher, alarm, step number and counts are as before it" */
    private static void undoAfterAnAlarm() {
        BottleLine x = withAlarm();
        x.clear();
        Due.is("undo() of clear", x.undo(), 2);
        Due.is("alarm again", x.about(9), 1);
        Due.is("nothing by hand", x.about(15), 0);
        Due.is("the bottle is back", x.cell(5, 1), 1);
        Due.is("the mark is back", x.cell(5, 0), 1);
        Due.is("step(1)", x.step(1), Due.LATE);
        Due.is("undo() of the steps", x.undo(), 1);
        Due.is("no alarm", x.about(9), 0);
        Due.is("step number", x.about(8), 0);
        Due.is("clear()", x.clear(), Due.LATE);
        Due.is("still jammed", x.about(10), 1);
        Due.is("undo() of jam", x.undo(), 0);
        Due.is("free", x.about(10), 0);
    }

    /** "Each successful call .. is an act." */
    private static void refusedCallsAreNoActs() {
        BottleLine x = Due.lineOf("B6123455020v504c99l99" + "b".repeat(24));
        x.step(0);
        x.step(100);
        x.clear();
        x.lay(false, 1);
        x.lay(true, 9);
        x.lay(true, 10);
        x.set(1, 5);
        x.set(0, 100);
        x.come(1);
        x.come(3);
        Due.is("acts", x.about(18), 0);
        Due.is("undo()", x.undo(), Due.LATE);
    }

    /** Only step, slip, jam, clear, restart, lay, set and come are acts. */
    private static void otherCallsAreNoActs() {
        BottleLine x = Due.lineOf("B6123455020v504c09l09bb");
        x.step(1);
        x.write('z');
        x.wipe();
        x.see(0, 0, 0);
        x.unsee();
        x.seed(5);
        x.drawn(5);
        x.keep(0);
        x.ahead(5, 11);
        x.goes(0, 0);
        x.best(0);
        x.needs(true);
        x.judge(1, 101);
        x.which();
        x.share(0, true);
        x.chance(3, 5, true);
        Due.is("acts", x.about(18), 1);
        Due.is("undo()", x.undo(), 0);
        Due.is("step number", x.about(8), 0);
    }

    /** "No acts are remembered then" */
    private static void againAndLineForget() {
        BottleLine x = Due.lineOf("B6123455020v004");
        for (int round = 0; round < 3; round++) {
            x.keep(0);
            for (int i = 1; i <= 20; i++) {
                x.set(0, i);
            }
            if (round == 1) {
                Due.is("line()", x.line(), 1);
            } else {
                Due.is("again(0)", x.again(0), 0);
            }
            Due.is("acts", x.about(18), 0);
            Due.is("undo()", x.undo(), Due.LATE);
            Due.is("setting", x.valve(0, 0), 0);
            x.set(0, 50);
            x.set(0, 60);
            Due.is("acts since then", x.about(18), 2);
            Due.is("undo() to one", x.undo(), 1);
            Due.is("setting after one undo", x.valve(0, 0), 50);
            Due.is("undo() to none", x.undo(), 0);
            Due.is("setting after two undos", x.valve(0, 0), 0);
            Due.is("undo() of none", x.undo(), Due.LATE);
        }
    }

    /** "An object is used for at most 512 calls after it has been made": the last of them is as good as the first. */
    private static void all512Calls() {
        BottleLine x = new BottleLine();
        for (int i = 1; i <= 511; i++) {
            Due.is("jam() number " + i, x.jam(), i % 2);
        }
        Due.is("the 512th call", x.about(18), 14);
        BottleLine steps = new BottleLine();
        for (int i = 1; i <= 511; i++) {
            Due.is("step(99) number " + i, steps.step(99), 99);
        }
        Due.is("the step number in the 512th call", steps.about(8), 511 * 99);
    }
}
