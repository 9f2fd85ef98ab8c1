/** The boundary cases of promises 20 to 24; above each test the sentence that names them. */
public final class AskedEdgesTest {
    private static final int[] FAR = {-1000000, Integer.MIN_VALUE, Integer.MAX_VALUE, 1000000, 256, -256};
    /** A bottle without a cap comes to the pusher, in the last cell, in the sixth step. */
    private static final String BAD_BOTTLE = "B6123455020v504b";
    /** Two bottles get the two caps; the third one is checked without one in the ninth step. */
    private static final String THIRD_IS_BAD = "B9123450000c02l09bb--b";

    public static void main(String[] args) {
        aheadFrom0To99();
        aheadFrom5To17();
        aheadBy0IsNow();
        aheadToAnAlarm();
        aheadOfAllCells();
        goesFromEachCell();
        goesByThePusher();
        goesPastThePusher();
        goesUnknownThenBadThenLate();
        goesBeforeAnAlarm();
        goesDuringAnAlarm();
        bestOfEachValve();
        bestIsTheLeastOfSeveral();
        bestFrom0To99();
        bestIfNothingHelps();
        needsAtLeast0();
        needsAtMost();
        needsWithFullStocks();
        needsWithoutBottles();
        judgeFrom1To3();
        judgeRowDigits();
        judgeLeadingZeros();
        judgeSteps();
        judgeStepsToAnAlarm();
        judgeInterventions();
        judgeClear();
        judgeValves();
        judgeOut();
        judgeOutAbove99();
        judgeMarks();
        judgeBottles();
        judgeNothingElse();
        judgeFirstWrong();
        Due.end("AskedEdgesTest");
    }

    private static BottleLine withAlarm() {
        BottleLine x = Due.lineOf(BAD_BOTTLE);
        x.jam();
        x.step(6);
        Due.is("alarm", x.about(9), 1);
        return x;
    }

    /** "n: 0 to 99" */
    private static void aheadFrom0To99() {
        BottleLine x = new BottleLine();
        Due.is("ahead(-1, 8)", x.ahead(-1, 8), Due.BAD);
        Due.is("ahead(0, 8)", x.ahead(0, 8), 0);
        Due.is("ahead(1, 8)", x.ahead(1, 8), 1);
        Due.is("ahead(99, 8)", x.ahead(99, 8), 99);
        Due.is("ahead(100, 8)", x.ahead(100, 8), Due.BAD);
        for (int n : FAR) {
            Due.is("ahead(" + n + ", 8)", x.ahead(n, 8), Due.BAD);
        }
    }

    /** "what: 5 to 17 as in about" */
    private static void aheadFrom5To17() {
        BottleLine x = Due.lineOf("B6123455020c07l08");
        for (int what = -1; what <= 21; what++) {
            int want = what == 5 ? 7 : what == 6 ? 8 : what >= 7 && what <= 17 ? 0 : Due.BAD;
            Due.is("ahead(0, " + what + ")", x.ahead(0, what), want);
        }
        for (int what : FAR) {
            Due.is("ahead(0, " + what + ")", x.ahead(0, what), Due.BAD);
        }
    }

    /** "Returns a number as it would be after n steps": after 0 steps it is as it is. */
    private static void aheadBy0IsNow() {
        BottleLine x = withAlarm();
        x.come(1);
        x.lay(true, 3);
        for (int what = 5; what <= 17; what++) {
            Due.is("ahead(0, " + what + ")", x.ahead(0, what), x.about(what));
            Due.is("ahead(99, " + what + ") with an alarm", x.ahead(99, what), x.about(what));
        }
    }

    /** "Wherever steps are simulated, there are no further steps after an alarm." */
    private static void aheadToAnAlarm() {
        BottleLine x = Due.lineOf(BAD_BOTTLE);
        x.jam();
        int[] steps = {4, 5, 6, 7, 99};
        for (int n : steps) {
            Due.is("ahead(" + n + ", 8)", x.ahead(n, 8), Math.min(6, n));
            Due.is("ahead(" + n + ", 9)", x.ahead(n, 9), n < 6 ? 0 : 1);
            Due.is("ahead(" + n + ", 10)", x.ahead(n, 10), 1);
            Due.is("ahead(" + n + ", 17)", x.ahead(n, 17), n < 6 ? 1 << n - 1 : 32);
        }
    }

    /** "17 the set of the cells with a bottle": all nine, the last one, none. */
    private static void aheadOfAllCells() {
        BottleLine x = Due.lineOf("B9123450000c30l30" + "b".repeat(24));
        Due.is("ahead(9, 17)", x.ahead(9, 17), 511);
        Due.is("ahead(32, 17)", x.ahead(32, 17), 256);
        Due.is("ahead(33, 17)", x.ahead(33, 17), 0);
        Due.is("ahead(32, 11)", x.ahead(32, 11), 23);
        Due.is("ahead(33, 11)", x.ahead(33, 11), 24);
        Due.is("ahead(99, 11)", x.ahead(99, 11), 24);
    }

    private static void goes(BottleLine x, int cell, int steps, int way) {
        Due.is("goes(" + cell + ", 0)", x.goes(cell, 0), steps);
        Due.is("goes(" + cell + ", 1)", x.goes(cell, 1), way);
    }

    /** "for after how many steps it is in no cell any more": from the first to the last cell. */
    private static void goesFromEachCell() {
        for (int c = 6; c <= 9; c++) {
            BottleLine x = Due.lineOf("B" + c + "123450000c09l09b");
            for (int cell = 0; cell < c; cell++) {
                x.step(1);
                goes(x, cell, c - cell, 1);
            }
            x.step(1);
            goes(x, c - 1, Due.LATE, Due.LATE);
        }
    }

    /** "3 rejected, 4 sampled": in the step in which it comes to the pusher. */
    private static void goesByThePusher() {
        BottleLine bad = Due.lineOf("B9123455020v504b");
        BottleLine sample = Due.lineOf("B9123450001c09l09b");
        for (int cell = 0; cell < 5; cell++) {
            bad.step(1);
            sample.step(1);
            goes(bad, cell, 5 - cell, 3);
            goes(sample, cell, 5 - cell, 4);
        }
        bad.step(1);
        goes(bad, 5, Due.LATE, Due.LATE);
        BottleLine last = Due.lineOf(BAD_BOTTLE);
        last.step(5);
        goes(last, 4, 1, 3);
    }

    /** "2 escaped": its mark slipped ahead, so that the pusher lets it pass. */
    private static void goesPastThePusher() {
        BottleLine x = Due.lineOf("B9123455020v504b");
        x.step(5);
        x.slip();
        for (int cell = 4; cell < 9; cell++) {
            goes(x, cell, 9 - cell, 2);
            x.step(1);
        }
        Due.is("escaped", x.about(12), 1);
    }

    /** "UNKNOWN; BAD; LATE if there is no bottle" */
    private static void goesUnknownThenBadThenLate() {
        for (int c = 6; c <= 9; c++) {
            BottleLine x = Due.lineOf("B" + c + "123450000c09l09b");
            x.step(1);
            for (int what = -1; what <= 2; what++) {
                boolean isBad = what < 0 || what > 1;
                Due.is("goes(-1, " + what + ")", x.goes(-1, what), Due.UNKNOWN);
                Due.is("goes(" + c + ", " + what + ")", x.goes(c, what), Due.UNKNOWN);
                Due.is("goes(1, " + what + ")", x.goes(1, what), isBad ? Due.BAD : Due.LATE);
                Due.is("goes(" + (c - 1) + ", " + what + ")", x.goes(c - 1, what), isBad ? Due.BAD : Due.LATE);
            }
            Due.is("goes(0, 2)", x.goes(0, 2), Due.BAD);
            for (int far : FAR) {
                Due.is("goes(" + far + ", 0)", x.goes(far, 0), Due.UNKNOWN);
                Due.is("goes(0, " + far + ")", x.goes(0, far), Due.BAD);
            }
        }
    }

    /** "NONE if it does not leave within 60 steps (or before an alarm)" */
    private static void goesBeforeAnAlarm() {
        BottleLine x = Due.lineOf(THIRD_IS_BAD);
        x.step(9);
        goes(x, 8, 1, 1);
        goes(x, 7, 2, 1);
        goes(x, 4, 1, 3);
        x.jam();
        goes(x, 8, 1, 1);
        goes(x, 7, Due.NONE, Due.NONE);
        goes(x, 4, Due.NONE, Due.NONE);
    }

    /** "(or before an alarm)": there is one already; the errors come first. */
    private static void goesDuringAnAlarm() {
        BottleLine x = Due.lineOf(THIRD_IS_BAD);
        x.jam();
        Due.is("step(99)", x.step(99), 10);
        goes(x, 8, Due.NONE, Due.NONE);
        goes(x, 5, Due.NONE, Due.NONE);
        goes(x, 0, Due.LATE, Due.LATE);
        goes(x, 9, Due.UNKNOWN, Due.UNKNOWN);
        Due.is("goes(8, 2)", x.goes(8, 2), Due.BAD);
        x.clear();
        goes(x, 8, 1, 1);
        goes(x, 5, Due.LATE, Due.LATE);
    }

    private static void best(String text, int valve, int want) {
        BottleLine x = Due.lineOf(text);
        Due.is("best(" + valve + ") of " + text, x.best(valve), want);
    }

    /** "Returns the setting; UNKNOWN." */
    private static void bestOfEachValve() {
        for (int valves = 0; valves <= 4; valves++) {
            String text = "B6123455000" + "v104".repeat(valves) + "c09l09bbbb";
            for (int valve = 0; valve < valves; valve++) {
                // With any other setting the first bottle of this valve is not good.
                best(text, valve, 50);
            }
            best(text, valves, Due.UNKNOWN);
            best(text, -1, Due.UNKNOWN);
        }
        BottleLine x = Due.lineOf("B6123455000v104v104c09l09bb");
        for (int valve : FAR) {
            Due.is("best(" + valve + ")", x.best(valve), Due.UNKNOWN);
        }
    }

    /** "of several the least" */
    private static void bestIsTheLeastOfSeveral() {
        best("B6123455090v104c09l09b", 0, 41);
        best("B6123459900v109c09l09b", 0, 94);
        best("B6123459990v109c09l09b", 0, 85);
        best("B6123450000v100c09l09b", 0, 0);
        best("B6123450190v100c09l09b", 0, 0);
    }

    /** "the setting, 0 to 99" */
    private static void bestFrom0To99() {
        best("B6123459900v504c09l09b", 0, 99);
        best("B6123459800v504c09l09b", 0, 98);
        best("B6123450100v504c09l09b", 0, 1);
        best("B6123450000v504c09l09b", 0, 0);
        best("B6123459500v500c09l09b", 0, 99);
        best("B6123450500v509c09l09b", 0, 0);
    }

    /** Where no setting puts a bottle out, all are the best, and 0 is the least. */
    private static void bestIfNothingHelps() {
        best("B6123459600v500c09l09b", 0, 0);
        best("B6123450400v509c09l09b", 0, 0);
        best("B6123455020v504c09l09", 0, 0);
        best("B6123455020v504c09l09-", 0, 0);
        best("B6123455020v504c09b", 0, 0);
        best("B6123455021v504c09l09b", 0, 0);
        Due.is("best(0) with an alarm", withAlarm().best(0), 0);
    }

    private static void needs(BottleLine x, int caps, int labels) {
        Due.is("needs(false)", x.needs(false), caps);
        Due.is("needs(true)", x.needs(true), labels);
    }

    /** "the least number n from 0 to 40" */
    private static void needsAtLeast0() {
        needs(Due.lineOf("B6123450000c03l03bbb"), 0, 0);
        needs(Due.lineOf("B6123450000c02l03bbb"), 1, 0);
        needs(Due.lineOf("B6123450000c03l02bbb"), 0, 1);
        needs(Due.lineOf("B6123450000c02l02bbb"), 0, 0);
        needs(Due.lineOf("B6123450000c02l01bbb"), 0, 1);
        needs(Due.lineOf("B6123450000bbb"), 0, 0);
    }

    /** The most that can be needed: each bottle that can be before the capper or labeller, and a full queue. */
    private static void needsAtMost() {
        for (boolean labels : new boolean[] {false, true}) {
            BottleLine x = Due.lineOf("B9456780000" + (labels ? "c99" : "l99") + "b".repeat(24));
            int before = labels ? 6 : 5;
            x.step(before);
            for (int i = 0; i < before; i++) {
                x.come(1);
            }
            Due.is("entries", x.about(7), 24);
            Due.is("needs(" + labels + ")", x.needs(labels), 24 + before);
        }
    }

    /** "(never more than 99 in stock)" */
    private static void needsWithFullStocks() {
        needs(Due.lineOf("B6123450000c99l99" + "b".repeat(24)), 0, 0);
        needs(Due.lineOf("B6123450000c98l99" + "b".repeat(24)), 0, 0);
        BottleLine x = Due.lineOf("B6123450000c99l99b");
        Due.is("needs(false)", x.needs(false), 0);
        Due.is("the stock is as before", x.about(5), 99);
    }

    /** "is the same with n more .. as with 40 more": with 0 more, where stocks do not matter. */
    private static void needsWithoutBottles() {
        needs(new BottleLine(), 0, 0);
        needs(Due.lineOf("B6123450000---"), 0, 0);
        needs(withAlarm(), 0, 0);
        BottleLine past = Due.lineOf("B6123450000b");
        past.step(5);
        needs(past, 0, 0);
    }

    /** "n: number of commands, 1 to 3 .. BAD if n is out of its range" */
    private static void judgeFrom1To3() {
        BottleLine x = new BottleLine();
        Due.is("judge(0, 0)", x.judge(0, 0), Due.BAD);
        Due.is("judge(1, 200)", x.judge(1, 200), Due.NONE);
        Due.is("judge(2, 200200)", x.judge(2, 200200), Due.NONE);
        Due.is("judge(3, 200200200)", x.judge(3, 200200200), Due.NONE);
        Due.is("judge(4, 200200200)", x.judge(4, 200200200), Due.BAD);
        Due.is("judge(-1, 200)", x.judge(-1, 200), Due.BAD);
        for (int n : FAR) {
            Due.is("judge(" + n + ", 200)", x.judge(n, 200), Due.BAD);
        }
    }

    /** "or row is negative or has more than 3 * n digits" */
    private static void judgeRowDigits() {
        BottleLine x = new BottleLine();
        int[] most = {999, 999999, 999999999};
        for (int n = 1; n <= 3; n++) {
            Due.is("the greatest row of " + n, x.judge(n, most[n - 1]), 0);
            Due.is("one digit more than " + n, x.judge(n, most[n - 1] + 1), Due.BAD);
            Due.is("-1 for " + n, x.judge(n, -1), Due.BAD);
            Due.is("0 for " + n, x.judge(n, 0), 0);
            Due.is("most for " + n, x.judge(n, Integer.MAX_VALUE), Due.BAD);
            Due.is("least for " + n, x.judge(n, Integer.MIN_VALUE), Due.BAD);
            Due.is("-200 for " + n, x.judge(n, -200), Due.BAD);
        }
        Due.is("1000 for 2", x.judge(2, 1000), 0);
        Due.is("1000000 for 3", x.judge(3, 1000000), 0);
    }

    /** "the first command first (leading zeros count)" */
    private static void judgeLeadingZeros() {
        BottleLine x = new BottleLine();
        Due.is("judge(1, 20)", x.judge(1, 20), 0);
        Due.is("judge(2, 200)", x.judge(2, 200), 0);
        Due.is("judge(3, 200200)", x.judge(3, 200200), 0);
        Due.is("judge(2, 200020)", x.judge(2, 200020), 1);
        Due.is("judge(3, 200200002)", x.judge(3, 200200002), 2);
    }

    /** "d = 1: ab steps are done; they must be 1 or more" */
    private static void judgeSteps() {
        BottleLine x = new BottleLine();
        Due.is("judge(1, 100)", x.judge(1, 100), 0);
        for (int ab : new int[] {1, 9, 10, 99}) {
            Due.is("judge(1, " + (100 + ab) + ")", x.judge(1, 100 + ab), Due.NONE);
        }
        Due.is("297 steps", x.judge(3, 199199199), Due.NONE);
    }

    /** "and all of them possible (an alarm in the last one does not matter)" */
    private static void judgeStepsToAnAlarm() {
        BottleLine x = Due.lineOf(BAD_BOTTLE);
        x.jam();
        Due.is("5 steps", x.judge(1, 105), Due.NONE);
        Due.is("6 steps", x.judge(1, 106), Due.NONE);
        Due.is("7 steps", x.judge(1, 107), 0);
        Due.is("6 steps and 1", x.judge(2, 106101), 1);
        Due.is("5 steps and 1", x.judge(2, 105101), Due.NONE);
        Due.is("5 steps and 2", x.judge(2, 105102), 1);
        Due.is("6 steps, clear and 99", x.judge(3, 106400199), Due.NONE);
        Due.is("a step during an alarm", withAlarm().judge(1, 101), 0);
    }

    /** "d = 2 to 5 (with a = b = 0)" */
    private static void judgeInterventions() {
        BottleLine x = withAlarm();
        for (int d = 2; d <= 5; d++) {
            for (int ab = 0; ab <= 99; ab++) {
                int command = 100 * d + ab;
                Due.is("judge(1, " + command + ")", x.judge(1, command), ab == 0 ? Due.NONE : 0);
            }
        }
    }

    /** "the alarm is cleared (there must be one)" */
    private static void judgeClear() {
        Due.is("without an alarm", new BottleLine().judge(1, 400), 0);
        Due.is("with an alarm", withAlarm().judge(1, 400), Due.NONE);
        Due.is("twice", withAlarm().judge(2, 400400), 1);
        BottleLine x = Due.lineOf(BAD_BOTTLE);
        x.jam();
        Due.is("too early", x.judge(2, 105400), 1);
        Due.is("in time", x.judge(2, 106400), Due.NONE);
    }

    /** "d = 6 (with b = 0): valve a exists and is the next one that fills a bottle" */
    private static void judgeValves() {
        for (int valves = 0; valves <= 4; valves++) {
            BottleLine x = Due.lineOf("B6123455020" + "v504".repeat(valves));
            for (int number = 0; number <= 5; number++) {
                for (int a = 0; a <= 9; a++) {
                    boolean isNext = valves > 0 && a == number % valves;
                    Due.is("valve " + a + " of " + valves, x.judge(1, 600 + 10 * a), isNext ? Due.NONE : 0);
                }
                Due.is("b = 1", x.judge(1, valves == 0 ? 601 : 601 + 10 * (number % valves)), 0);
                x.step(1);
            }
        }
    }

    /** "d = 7: out is ab" */
    private static void judgeOut() {
        BottleLine x = Due.lineOf("B6123450000c30l30" + "b".repeat(24));
        for (int ab = 0; ab <= 99; ab++) {
            Due.is("out of none is " + ab, x.judge(1, 700 + ab), ab == 0 ? Due.NONE : 0);
            Due.is("out of all is " + ab, x.judge(2, 199700 + ab), ab == 24 ? Due.NONE : 1);
        }
    }

    /** An out of 100 or more is no ab; nor can it be seen, for v is 0 to 99. */
    private static void judgeOutAbove99() {
        BottleLine x = Due.lineOf("B6123450000");
        for (int i = 1; i <= 100; i++) {
            x.come(1);
            if (i % 9 == 1) {
                Due.is("lay caps", x.lay(false, 9) > 0 ? 1 : 0, 1);
                Due.is("lay labels", x.lay(true, 9) > 0 ? 1 : 0, 1);
            }
            if (i % 20 == 0 || i == 99) {
                x.step(50);
            }
            if (i == 99) {
                Due.is("out", x.about(11), 99);
                Due.is("out is 99", x.judge(1, 799), Due.NONE);
                x.see(0, 0, 99);
                Due.is("99 is seen", x.which(), 1023);
            }
        }
        Due.is("out", x.about(11), 100);
        Due.is("ahead(0, 11)", x.ahead(0, 11), 100);
        for (int ab = 0; ab <= 99; ab++) {
            Due.is("100 is " + ab, x.judge(1, 700 + ab), 0);
        }
        Due.is("99 is not seen", x.which(), 0);
    }

    /** "d = 8: there is a cell a, and its mark is b" */
    private static void judgeMarks() {
        for (int c = 6; c <= 9; c++) {
            BottleLine x = Due.lineOf("B" + c + "123450000");
            for (int a = 0; a <= 9; a++) {
                Due.is("mark of " + a + " of " + c, x.judge(1, 800 + 10 * a), a < c ? Due.NONE : 0);
                Due.is("mark of " + a + " is 1", x.judge(1, 801 + 10 * a), 0);
            }
        }
        BottleLine bad = Due.lineOf(BAD_BOTTLE);
        bad.step(5);
        BottleLine sample = Due.lineOf("B6123450001c09l09b");
        sample.step(5);
        for (int b = 0; b <= 9; b++) {
            Due.is("bad mark is " + b, bad.judge(1, 840 + b), b == 1 ? Due.NONE : 0);
            Due.is("sample mark is " + b, sample.judge(1, 840 + b), b == 2 ? Due.NONE : 0);
            Due.is("no mark is " + b, sample.judge(1, 830 + b), b == 0 ? Due.NONE : 0);
        }
    }

    /** "d = 9 (with b 0 or 1): there is a cell a with a bottle, which is good if b is 1 and not good if b is 0" */
    private static void judgeBottles() {
        for (int c = 6; c <= 9; c++) {
            BottleLine x = Due.lineOf("B" + c + "123450000c09l01b--b");
            x.step(5);
            for (int a = 0; a <= 9; a++) {
                for (int b = 0; b <= 9; b++) {
                    boolean isTrue = a == 4 && b == 1 || a == 1 && b == 0;
                    Due.is("bottle in " + a + " is " + b, x.judge(1, 900 + 10 * a + b), isTrue ? Due.NONE : 0);
                }
            }
        }
    }

    /** "Everything else is wrong, too." */
    private static void judgeNothingElse() {
        BottleLine x = withAlarm();
        for (int command = 0; command <= 100; command++) {
            Due.is("judge(1, " + command + ")", x.judge(1, command), 0);
        }
    }

    /** "Returns the index (from 0) of the first command that is wrong" */
    private static void judgeFirstWrong() {
        BottleLine x = new BottleLine();
        Due.is("the first of three", x.judge(3, 400400400), 0);
        Due.is("the second of three", x.judge(3, 200400400), 1);
        Due.is("the third of three", x.judge(3, 200200400), 2);
        Due.is("none of three", x.judge(3, 200200200), Due.NONE);
        Due.is("the first of two", x.judge(2, 400200), 0);
        Due.is("the second of two", x.judge(2, 200400), 1);
    }
}
