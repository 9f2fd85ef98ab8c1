/** The boundary cases of a step and of promises 6 to 10; above each test the sentence that names them. */
public final class LookEdgesTest {
    private static final int[] FAR = {-1000000, Integer.MIN_VALUE, Integer.MAX_VALUE, 1000000, 256, -256};
    /** Nine cells, no valves: empty bottles are good for the target 0, once they have a cap and a label. */
    private static final String EMPTY_IS_GOOD = "B9123450000c30l30" + "b".repeat(24);

    public static void main(String[] args) {
        aboutFrom0To20();
        setOfAllCells();
        placeFrom0To4();
        cellsOfEachLine();
        cellUnknownBeforeBad();
        cellWithoutABottle();
        bottleWithoutAValve();
        valvesOfEachLine();
        valveUnknownBeforeBad();
        queueFrom0To23();
        queueGoesRound();
        lastCellIsLeft();
        lastMarkIsLost();
        firstCellGetsNoMark();
        emptyQueue();
        leakNotBelow0();
        leakBeforeFillAndScale();
        fillAtLeast0();
        fillAtMost99();
        fillWithoutValves();
        valvesGoRound();
        correctionRoundsToward0();
        settingLimitedTo0();
        settingLimitedTo99();
        noScaleWithoutAValve();
        lastCapAndLabel();
        stocksStayWithoutBottles();
        goodAtTheTolerance();
        eachDividesPassed();
        markedBottleDoesNotPass();
        jamWithoutMarks();
        alarmWithoutABottle();
        Due.end("LookEdgesTest");
    }

    /** "what: 0 cells, .., 20 characters of the text. Returns that number; BAD." */
    private static void aboutFrom0To20() {
        BottleLine x = new BottleLine();
        Due.is("about(-1)", x.about(-1), Due.BAD);
        Due.is("about(0)", x.about(0), 6);
        Due.is("about(20)", x.about(20), 0);
        Due.is("about(21)", x.about(21), Due.BAD);
        for (int what : FAR) {
            Due.is("about(" + what + ")", x.about(what), Due.BAD);
        }
    }

    /** "17 the set of the cells with a bottle": none, all nine, the first and the last one alone. */
    private static void setOfAllCells() {
        BottleLine x = Due.lineOf(EMPTY_IS_GOOD);
        Due.is("no cell", x.about(17), 0);
        x.step(1);
        Due.is("cell 0", x.about(17), 1);
        x.step(8);
        Due.is("cells 0 to 8", x.about(17), 511);
        Due.is("5 passed", x.about(16), 5);
        Due.is("7 have a cap", x.about(5), 23);
        Due.is("6 have a label", x.about(6), 24);
        Due.is("none is out", x.about(11), 0);
        x.step(1);
        Due.is("one is out", x.about(11), 1);
        Due.is("still all cells", x.about(17), 511);
        x.step(15);
        Due.is("cells 1 to 8", x.about(17), 510);
        x.step(7);
        Due.is("cell 8", x.about(17), 256);
        x.step(1);
        Due.is("no cell any more", x.about(17), 0);
        Due.is("all are out", x.about(11), 24);
    }

    /** "what: 0 w, 1 p, 2 q, 3 k, 4 r. Returns the cell; BAD." */
    private static void placeFrom0To4() {
        BottleLine x = Due.lineOf("B9245780000");
        int[] want = {Due.BAD, 2, 4, 5, 7, 8, Due.BAD};
        for (int what = -1; what <= 5; what++) {
            Due.is("place(" + what + ")", x.place(what), want[what + 1]);
        }
        for (int what : FAR) {
            Due.is("place(" + what + ")", x.place(what), Due.BAD);
        }
    }

    /** "UNKNOWN (-1): there is no such cell" */
    private static void cellsOfEachLine() {
        for (int c = 6; c <= 9; c++) {
            BottleLine x = Due.lineOf("B" + c + "123450000");
            for (int what = 0; what <= 7; what++) {
                int want = what == 2 || what == 3 ? Due.NONE : 0;
                Due.is("cell(-1, " + what + ") of " + c, x.cell(-1, what), Due.UNKNOWN);
                Due.is("cell(0, " + what + ") of " + c, x.cell(0, what), want);
                Due.is("cell(" + (c - 1) + ", " + what + ") of " + c, x.cell(c - 1, what), want);
                Due.is("cell(" + c + ", " + what + ") of " + c, x.cell(c, what), Due.UNKNOWN);
            }
            for (int cell : FAR) {
                Due.is("cell(" + cell + ", 1)", x.cell(cell, 1), Due.UNKNOWN);
            }
        }
    }

    /** "Each @return names them in the order in which they are checked": UNKNOWN; BAD. */
    private static void cellUnknownBeforeBad() {
        BottleLine x = Due.lineOf("B6123455020v504b");
        x.step(1);
        for (int what : new int[] {-1, 8, Integer.MIN_VALUE, Integer.MAX_VALUE}) {
            Due.is("cell(-1, " + what + ")", x.cell(-1, what), Due.UNKNOWN);
            Due.is("cell(6, " + what + ")", x.cell(6, what), Due.UNKNOWN);
            Due.is("cell(0, " + what + ") with a bottle", x.cell(0, what), Due.BAD);
            Due.is("cell(5, " + what + ") without a bottle", x.cell(5, what), Due.BAD);
        }
    }

    /** "without a bottle NONE for 2 and 3, and 0 for 4 to 7": after a bottle went through the cell, too. */
    private static void cellWithoutABottle() {
        BottleLine x = Due.lineOf("B6123455020v544c01l01x");
        x.step(5);
        x.step(1);
        int[] empty = {0, 0, Due.NONE, Due.NONE, 0, 0, 0, 0};
        for (int cell = 0; cell < 5; cell++) {
            for (int what = 0; what <= 7; what++) {
                Due.is("cell(" + cell + ", " + what + ")", x.cell(cell, what), empty[what]);
            }
        }
        Due.is("the bottle is in cell 5", x.cell(5, 1), 1);
    }

    /** "NONE for 3 if no valve filled it" */
    private static void bottleWithoutAValve() {
        BottleLine x = new BottleLine();
        x.come(1);
        x.step(1);
        Due.is("there is a bottle", x.cell(0, 1), 1);
        Due.is("its fill", x.cell(0, 2), 0);
        Due.is("its valve", x.cell(0, 3), Due.NONE);
        BottleLine filled = Due.lineOf("B6123450000v004b");
        filled.step(1);
        Due.is("the fill by a valve that gives 0", filled.cell(0, 2), 0);
        Due.is("the valve that gives 0", filled.cell(0, 3), 0);
    }

    /** "UNKNOWN (-1): there is no such .. valve": with no, one and all four valves. */
    private static void valvesOfEachLine() {
        StringBuilder text = new StringBuilder("B6123450000");
        for (int valves = 0; valves <= 4; valves++) {
            BottleLine x = Due.lineOf(text.toString());
            for (int valve = 0; valve < valves; valve++) {
                Due.is("valve(" + valve + ", 0) of " + valves, x.valve(valve, 0), 10 * valve + 1);
                Due.is("valve(" + valve + ", 1) of " + valves, x.valve(valve, 1), valve + 2);
            }
            Due.is("valve(" + valves + ", 0) of " + valves, x.valve(valves, 0), Due.UNKNOWN);
            Due.is("valve(" + valves + ", 1) of " + valves, x.valve(valves, 1), Due.UNKNOWN);
            Due.is("valve(-1, 0) of " + valves, x.valve(-1, 0), Due.UNKNOWN);
            for (int valve : FAR) {
                Due.is("valve(" + valve + ", 0)", x.valve(valve, 0), Due.UNKNOWN);
            }
            text.append('v').append(valves).append(1).append(valves + 2);
        }
    }

    /** "Returns that value; UNKNOWN; BAD." */
    private static void valveUnknownBeforeBad() {
        BottleLine x = Due.lineOf("B6123450000v504");
        for (int what : new int[] {-1, 2, Integer.MIN_VALUE, Integer.MAX_VALUE}) {
            Due.is("valve(0, " + what + ")", x.valve(0, what), Due.BAD);
            Due.is("valve(1, " + what + ")", x.valve(1, what), Due.UNKNOWN);
            Due.is("valve(-1, " + what + ")", x.valve(-1, what), Due.UNKNOWN);
        }
    }

    /** "place: 0 (the next one) to 23. .. NONE if there are not so many entries; BAD." */
    private static void queueFrom0To23() {
        BottleLine x = new BottleLine();
        Due.is("queue(0) of none", x.queue(0), Due.NONE);
        Due.is("queue(23) of none", x.queue(23), Due.NONE);
        Due.is("queue(24) of none", x.queue(24), Due.BAD);
        Due.is("queue(-1) of none", x.queue(-1), Due.BAD);
        for (int n = 1; n <= 24; n++) {
            x.come(n % 3);
            Due.is("the last of " + n, x.queue(n - 1), n % 3);
            Due.is("after the last of " + n, x.queue(n), n < 24 ? Due.NONE : Due.BAD);
        }
        Due.is("queue(-1) of 24", x.queue(-1), Due.BAD);
        for (int place : FAR) {
            Due.is("queue(" + place + ")", x.queue(place), Due.BAD);
        }
    }

    /** The queue keeps its order when it is full again and again. */
    private static void queueGoesRound() {
        BottleLine x = new BottleLine();
        for (int i = 0; i < 24; i++) {
            x.come(i * i % 7 % 3);
        }
        for (int i = 24; i < 100; i++) {
            x.step(1);
            Due.is("come in round " + i, x.come(i * i % 7 % 3), 24);
            Due.is("first in round " + i, x.queue(0), (i - 23) * (i - 23) % 7 % 3);
            Due.is("last in round " + i, x.queue(23), i * i % 7 % 3);
        }
    }

    /** "A bottle in the last cell leaves the line": and none in the cell before it. */
    private static void lastCellIsLeft() {
        for (int c = 6; c <= 9; c++) {
            BottleLine x = Due.lineOf("B" + c + "123450000c09l09b");
            x.step(c);
            Due.is("in the last cell of " + c, x.about(17), 1 << c - 1);
            Due.is("not yet out", x.about(11), 0);
            x.step(1);
            Due.is("left", x.about(17), 0);
            Due.is("out", x.about(11), 1);
            Due.is("not escaped", x.about(12), 0);
        }
    }

    /** "the mark of the last cell is lost" */
    private static void lastMarkIsLost() {
        BottleLine x = Due.lineOf("B7123455020v504b");
        x.step(5);
        x.slip();
        Due.is("slip() to the last cell", x.slip(), 1);
        Due.is("mark of the last cell", x.cell(6, 0), 1);
        x.step(1);
        for (int cell = 0; cell < 7; cell++) {
            Due.is("mark of " + cell, x.cell(cell, 0), 0);
        }
        Due.is("no alarm", x.about(9), 0);
    }

    /** "cell 0 gets the mark 0" */
    private static void firstCellGetsNoMark() {
        BottleLine x = Due.lineOf("B6123455020v504bb");
        x.step(1);
        Due.is("restart()", x.restart(), 1);
        x.step(1);
        Due.is("mark of cell 0", x.cell(0, 0), 0);
        Due.is("mark of cell 1", x.cell(1, 0), 1);
    }

    /** "If the queue is not empty, its first entry is removed": an empty one stays empty. */
    private static void emptyQueue() {
        BottleLine x = Due.lineOf("B6123455020v504-");
        Due.is("step(1) with a gap", x.step(1), 1);
        Due.is("entries", x.about(7), 0);
        Due.is("step(99) without entries", x.step(99), 99);
        Due.is("entries still", x.about(7), 0);
        Due.is("no bottle", x.about(17), 0);
        Due.is("step number", x.about(8), 100);
    }

    /** "The fill of each leaking bottle decreases by 1, but not below 0." */
    private static void leakNotBelow0() {
        BottleLine x = Due.lineOf("B6123450090v014xxb");
        x.step(1);
        Due.is("filled with 1", x.cell(0, 2), 1);
        x.step(1);
        Due.is("leaked to 0", x.cell(1, 2), 0);
        x.step(1);
        Due.is("not below 0", x.cell(2, 2), 0);
        Due.is("the second to 0", x.cell(1, 2), 0);
        x.step(1);
        Due.is("the third does not leak", x.cell(1, 2), 1);
        Due.is("still leaking", x.cell(3, 6), 1);
        Due.is("still its valve", x.cell(3, 3), 0);
        BottleLine dry = new BottleLine();
        dry.come(2);
        dry.step(3);
        Due.is("never filled, not below 0", dry.cell(2, 2), 0);
    }

    /** "It consists of the following, in this order": 3 leaking, 4 filling, 5 weighing. */
    private static void leakBeforeFillAndScale() {
        BottleLine x = Due.lineOf("B6123455020v524x");
        x.step(1);
        Due.is("filled after leaking", x.cell(0, 2), 52);
        x.step(1);
        Due.is("weighed after leaking", x.valve(0, 0), 52);
        BottleLine tight = Due.lineOf("B6123455020v524b");
        tight.step(2);
        Due.is("weighed without leaking", tight.valve(0, 0), 51);
    }

    private static void fill(String valve, int want) {
        BottleLine x = Due.lineOf("B6123455020" + valve + "b");
        x.step(1);
        Due.is("fill by " + valve, x.cell(0, 2), want);
    }

    /** "its fill is the setting plus the drift, but at least 0" */
    private static void fillAtLeast0() {
        fill("v000", 0);
        fill("v030", 0);
        fill("v040", 0);
        fill("v050", 1);
        fill("v003", 0);
        fill("v004", 0);
        fill("v005", 1);
    }

    /** "and at most 99" */
    private static void fillAtMost99() {
        fill("v939", 98);
        fill("v949", 99);
        fill("v959", 99);
        fill("v999", 99);
        fill("v995", 99);
        fill("v994", 99);
        fill("v993", 98);
    }

    /** "If there is a bottle in cell 0 and there are valves" */
    private static void fillWithoutValves() {
        BottleLine x = Due.lineOf("B6123455020b");
        x.step(2);
        Due.is("fill", x.cell(1, 2), 0);
        Due.is("valve", x.cell(1, 3), Due.NONE);
    }

    /** "the valve with the number (step number) % (number of valves)" */
    private static void valvesGoRound() {
        for (int valves = 1; valves <= 4; valves++) {
            BottleLine x = Due.lineOf("B6123455020" + "v504".repeat(valves) + "bb-bbb-bbbbb");
            for (int number = 0; number < 12; number++) {
                x.step(1);
                int want = number == 2 || number == 6 ? Due.NONE : number % valves;
                Due.is("valve in step " + number + " of " + valves, x.cell(0, 3), want);
            }
            x.step(87);
            x.come(1);
            x.step(1);
            Due.is("valve in step 99 of " + valves, x.cell(0, 3), 99 % valves);
            x.step(99);
            x.step(99);
            x.come(1);
            x.step(1);
            Due.is("valve in step 298 of " + valves, x.cell(0, 3), 298 % valves);
        }
    }

    /** "increases by (target - fill) / 2, rounded toward 0" */
    private static void correctionRoundsToward0() {
        int[] changes = {-2, -2, -1, -1, 0, 0, 0, 1, 1, 2, 2};
        for (int lack = -5; lack <= 5; lack++) {
            int setting = 50 - lack;
            BottleLine x = Due.lineOf("B6123455020v" + setting + "4b");
            x.step(2);
            Due.is("setting with a lack of " + lack, x.valve(0, 0), setting + changes[lack + 5]);
        }
    }

    private static void corrected(String head, int fill, int set, int want) {
        BottleLine x = Due.lineOf(head + "v" + fill / 10 + fill % 10 + "4b");
        x.step(1);
        x.set(0, set);
        x.step(1);
        Due.is("setting " + set + " after a fill of " + fill, x.valve(0, 0), want);
    }

    /** "and is limited to 0 .." */
    private static void settingLimitedTo0() {
        corrected("B6123450000", 99, 50, 1);
        corrected("B6123450000", 99, 49, 0);
        corrected("B6123450000", 99, 48, 0);
        corrected("B6123450000", 99, 0, 0);
    }

    /** ".. to 99" */
    private static void settingLimitedTo99() {
        corrected("B6123459900", 0, 49, 98);
        corrected("B6123459900", 0, 50, 99);
        corrected("B6123459900", 0, 51, 99);
        corrected("B6123459900", 0, 99, 99);
    }

    /** "If there is a bottle at w that was filled by a valve" */
    private static void noScaleWithoutAValve() {
        BottleLine x = Due.lineOf("B6123455020v104v204-b");
        x.step(2);
        Due.is("nothing weighed in a gap", x.valve(0, 0), 10);
        x.step(1);
        Due.is("its own valve is corrected", x.valve(1, 0), 35);
        Due.is("no other one", x.valve(0, 0), 10);
        x.step(9);
        Due.is("once only", x.valve(1, 0), 35);
    }

    /** "and the stock of caps is not 0 .. The same for labels at q." */
    private static void lastCapAndLabel() {
        BottleLine caps = Due.lineOf("B6123455020v504c01l09bb");
        caps.step(3);
        Due.is("the last cap", caps.cell(2, 4), 1);
        Due.is("no caps left", caps.about(5), 0);
        caps.step(1);
        Due.is("no cap for the second", caps.cell(2, 4), 0);
        Due.is("still 0 caps", caps.about(5), 0);
        BottleLine labels = Due.lineOf("B6123455020v504c09l01bb");
        labels.step(4);
        Due.is("the last label", labels.cell(3, 5), 1);
        Due.is("no labels left", labels.about(6), 0);
        labels.step(1);
        Due.is("no label for the second", labels.cell(3, 5), 0);
        Due.is("still 0 labels", labels.about(6), 0);
        Due.is("caps are another stock", labels.about(5), 7);
    }

    /** "If there is a bottle at p .." */
    private static void stocksStayWithoutBottles() {
        BottleLine x = Due.lineOf("B6123455020v504c01l01---");
        x.step(20);
        Due.is("caps", x.about(5), 1);
        Due.is("labels", x.about(6), 1);
    }

    private static void good(int target, int tolerance, int fill, int want) {
        String head = "B612345" + target / 10 + target % 10 + tolerance + "0";
        BottleLine x = Due.lineOf(head + "v" + fill / 10 + fill % 10 + "4c09l09b");
        x.step(5);
        String name = fill + " for " + target + " with " + tolerance;
        Due.is(name + " is good", x.cell(4, 7), want);
        Due.is(name + " gets the mark", x.cell(4, 0), 1 - want);
        Due.is(name + " passes", x.about(16), want);
    }

    /** "A bottle is good if its fill differs from the target by at most the tolerance" */
    private static void goodAtTheTolerance() {
        good(50, 0, 50, 1);
        good(50, 0, 49, 0);
        good(50, 0, 51, 0);
        good(50, 9, 41, 1);
        good(50, 9, 40, 0);
        good(50, 9, 59, 1);
        good(50, 9, 60, 0);
        good(0, 9, 0, 1);
        good(0, 9, 9, 1);
        good(0, 9, 10, 0);
        good(99, 9, 99, 1);
        good(99, 9, 90, 1);
        good(99, 9, 89, 0);
        good(99, 0, 99, 1);
        good(0, 0, 0, 1);
    }

    /** "if each is not 0 and divides passed, the mark becomes 2" */
    private static void eachDividesPassed() {
        for (int each = 0; each <= 9; each++) {
            BottleLine x = Due.lineOf("B612345000" + each + "c30l30" + "b".repeat(24));
            x.step(30);
            int samples = each == 0 ? 0 : 24 / each;
            Due.is("sampled with each " + each, x.about(14), samples);
            Due.is("passed with each " + each, x.about(16), 24);
            Due.is("out with each " + each, x.about(11), 24 - samples);
        }
        BottleLine x = Due.lineOf("B6123450009c30l30" + "b".repeat(9));
        x.step(12);
        Due.is("passed", x.about(16), 8);
        Due.is("the eighth is no sample", x.cell(4, 0), 0);
        x.step(1);
        Due.is("the ninth is one", x.cell(4, 0), 2);
    }

    /** "If it is good and the mark there is 0, passed increases by 1" */
    private static void markedBottleDoesNotPass() {
        BottleLine x = Due.lineOf("B6123450002c09l09bbb");
        x.step(1);
        x.restart();
        x.step(4);
        Due.is("marked and good", x.cell(4, 7), 1);
        Due.is("does not pass", x.about(16), 0);
        Due.is("keeps its mark", x.cell(4, 0), 1);
        x.step(1);
        Due.is("the second passes", x.about(16), 1);
        Due.is("it is no sample", x.cell(4, 0), 0);
        x.step(1);
        Due.is("the third is the second that passes", x.cell(4, 0), 2);
    }

    /** "If the mark at r is not 0": a jammed pusher alone makes no alarm. */
    private static void jamWithoutMarks() {
        BottleLine x = Due.lineOf("B6123450000c09l09b");
        x.jam();
        Due.is("step(99)", x.step(99), 99);
        Due.is("out", x.about(11), 1);
        Due.is("no alarm", x.about(9), 0);
    }

    /** "if there is a bottle at r and the pusher is not jammed, ..; otherwise there is an alarm" */
    private static void alarmWithoutABottle() {
        for (boolean jammed : new boolean[] {false, true}) {
            BottleLine x = Due.lineOf("B7123465020v504b");
            x.step(5);
            x.slip();
            if (jammed) {
                x.jam();
            }
            Due.is("step(9)", x.step(9), 1);
            Due.is("alarm", x.about(9), 1);
            Due.is("the mark stays", x.cell(6, 0), 1);
            Due.is("the bottle is before it", x.about(17), 32);
            Due.is("nothing rejected", x.about(13), 0);
            Due.is("the step counts", x.about(8), 6);
        }
    }
}
