/** Promises 20 to 24: ahead, goes, best, needs, judge. */
public final class AskedTest {
    private static final String BAD_BOTTLE = "B6123455020v504b";

    public static void main(String[] args) {
        ahead();
        goes();
        goesWithAlarm();
        best();
        bestWithinThirty();
        needs();
        judgeCommands();
        judgeRows();
        judgeBad();
        Due.end("AskedTest");
    }

    private static void ahead() {
        BottleLine x = Due.lineOf(LookTest.TEXT);
        x.jam();
        x.jam();
        String before = Due.wholeOf(x);
        int[] after0 = {9, 8, 5, 0, 0, 0, 0, 0, 0, 0, 0, 0, 0};
        int[] after6 = {6, 5, 0, 6, 0, 0, 0, 0, 0, 0, 0, 2, 58};
        int[] after7 = {5, 5, 0, 7, 0, 0, 1, 0, 0, 1, 0, 3, 20};
        for (int what = 5; what <= 17; what++) {
            Due.is("ahead(0, " + what + ")", x.ahead(0, what), after0[what - 5]);
            Due.is("ahead(6, " + what + ")", x.ahead(6, what), after6[what - 5]);
            Due.is("ahead(7, " + what + ")", x.ahead(7, what), after7[what - 5]);
        }
        Due.is("ahead(99, 8)", x.ahead(99, 8), 99);
        Due.is("ahead(-1, 8)", x.ahead(-1, 8), Due.BAD);
        Due.is("ahead(100, 8)", x.ahead(100, 8), Due.BAD);
        Due.is("ahead(1, 4)", x.ahead(1, 4), Due.BAD);
        Due.is("ahead(1, 18)", x.ahead(1, 18), Due.BAD);
        Due.is("ahead(1, -1)", x.ahead(1, -1), Due.BAD);
        Due.same("after ahead", Due.wholeOf(x), before);
        BottleLine jammed = Due.lineOf(BAD_BOTTLE);
        jammed.jam();
        Due.is("ahead(5, 9)", jammed.ahead(5, 9), 0);
        Due.is("ahead(6, 9)", jammed.ahead(6, 9), 1);
        Due.is("ahead(99, 8) to an alarm", jammed.ahead(99, 8), 6);
        Due.is("ahead(99, 10)", jammed.ahead(99, 10), 1);
        jammed.step(6);
        Due.is("ahead(9, 8) after an alarm", jammed.ahead(9, 8), 6);
        jammed.clear();
        Due.is("ahead(0, 15)", jammed.ahead(0, 15), 1);
        Due.is("nothing rejected ahead", jammed.ahead(9, 13), 0);
        BottleLine escapes = Due.lineOf("B6123455020v524c09l09x");
        Due.is("ahead(7, 12)", escapes.ahead(7, 12), 1);
        Due.is("ahead(7, 13)", Due.lineOf(BAD_BOTTLE).ahead(7, 13), 1);
    }

    private static void goes(BottleLine x, int cell, int steps, int way) {
        Due.is("goes(" + cell + ", 0)", x.goes(cell, 0), steps);
        Due.is("goes(" + cell + ", 1)", x.goes(cell, 1), way);
    }

    private static void goes() {
        BottleLine x = Due.lineOf(LookTest.TEXT);
        x.step(6);
        String before = Due.wholeOf(x);
        goes(x, 5, 1, 1);
        goes(x, 4, 1, 4);
        goes(x, 3, 3, 1);
        goes(x, 1, 4, 4);
        goes(x, 0, Due.LATE, Due.LATE);
        goes(x, 2, Due.LATE, Due.LATE);
        goes(x, 6, Due.UNKNOWN, Due.UNKNOWN);
        goes(x, -1, Due.UNKNOWN, Due.UNKNOWN);
        Due.is("goes(6, 2)", x.goes(6, 2), Due.UNKNOWN);
        Due.is("goes(0, 2)", x.goes(0, 2), Due.BAD);
        Due.is("goes(5, 2)", x.goes(5, 2), Due.BAD);
        Due.is("goes(5, -1)", x.goes(5, -1), Due.BAD);
        Due.same("after goes", Due.wholeOf(x), before);
        BottleLine rejected = Due.lineOf(BAD_BOTTLE);
        rejected.step(3);
        goes(rejected, 2, 3, 3);
        BottleLine escapes = Due.lineOf("B8123465020v504b");
        escapes.step(6);
        escapes.slip();
        goes(escapes, 5, 3, 2);
        BottleLine leaks = Due.lineOf("B6123455020v524c09l09x");
        leaks.step(1);
        goes(leaks, 0, 6, 2);
    }

    private static void goesWithAlarm() {
        // One bottle leaves in the step that ends with the alarm, the bad one and the next one stay.
        BottleLine x = Due.lineOf("B7123455020v504v504v604c09l09b-bb");
        x.step(7);
        x.jam();
        goes(x, 6, 1, 1);
        goes(x, 4, Due.NONE, Due.NONE);
        goes(x, 3, Due.NONE, Due.NONE);
        x.step(1);
        Due.is("alarm", x.about(9), 1);
        goes(x, 5, Due.NONE, Due.NONE);
        goes(x, 4, Due.NONE, Due.NONE);
        x.clear();
        goes(x, 4, 3, 1);
    }

    private static void best(String parts, int valve, int want) {
        BottleLine x = Due.lineOf("B6123455020" + parts);
        String before = Due.wholeOf(x);
        Due.is("best(" + valve + ") of " + parts, x.best(valve), want);
        Due.same("after best", Due.wholeOf(x), before);
    }

    private static void best() {
        best("v504c09l09b", 0, 48);
        best("v999c09l09b", 0, 43);
        best("v000c09l09b", 0, 52);
        best("v006c09l09b", 0, 46);
        best("v504c09l09x", 0, 53);
        best("v504c09l09b--b", 0, 48);
        // The scale makes 52 of 53 before the second bottle is filled.
        best("v504c09l09x--b", 0, 53);
        best("v104v104c09l09-b", 0, 0);
        best("v104v104c09l09-b", 1, 48);
        best("v504b", 0, 0);
        best("v504", 0, 0);
        best("v504", 1, Due.UNKNOWN);
        best("v504v504v504v504", 4, Due.UNKNOWN);
        best("v504", -1, Due.UNKNOWN);
        best("", 0, Due.UNKNOWN);
        BottleLine high = Due.lineOf("B6123459900v504c09l09b");
        Due.is("best(0) of 99", high.best(0), 99);
        BottleLine alarm = Due.lineOf("B6123455020v604c09l09bb");
        alarm.jam();
        alarm.step(6);
        Due.is("best(0) with an alarm", alarm.best(0), 0);
    }

    private static void bestWithinThirty() {
        String late = "5020v504c09l09" + "-".repeat(23) + "b";
        BottleLine just = Due.lineOf("B612345" + late);
        Due.is("best(0), out in the 30th step", just.best(0), 48);
        BottleLine over = Due.lineOf("B712345" + late);
        Due.is("best(0), out in the 31st step", over.best(0), 0);
        over.step(1);
        Due.is("best(0), out in the 30th step from now", over.best(0), 48);
    }

    private static void needs(String text, int caps, int labels) {
        BottleLine x = Due.lineOf(text);
        String before = Due.wholeOf(x);
        Due.is("needs(false) of " + text, x.needs(false), caps);
        Due.is("needs(true) of " + text, x.needs(true), labels);
        Due.same("after needs", Due.wholeOf(x), before);
    }

    private static void needs() {
        needs("B6123455020v504c01l09bbb", 2, 0);
        needs("B6123455020v504c09l02bbb", 0, 1);
        needs("B6123455020v504bbb", 0, 0);
        needs("B6123455020v504l09bbb", 3, 0);
        needs("B6123455020v504c09bbb", 0, 3);
        needs("B6123455020v604l09b", 0, 0);
        // Of four good bottles the second and the fourth are samples, so the third is the last one out.
        needs("B6123455022v504l09bbbb", 3, 0);
        needs("B6123455021v504l09bbbb", 0, 0);
        needs("B9123455020v504l99" + "b".repeat(24), 24, 0);
        needs("B9123455020v504c99" + "b".repeat(24), 0, 24);
        needs("B6123455020v504c98l98" + "b".repeat(24), 0, 0);
        BottleLine x = Due.lineOf("B9456785020v504l99" + "b".repeat(24));
        x.step(5);
        for (int i = 0; i < 5; i++) {
            x.come(1);
        }
        // None of the 5 on the line and the 24 of the queue has been at the capper yet.
        Due.is("needs(false) of 29", x.needs(false), 29);
        x.step(1);
        // The first one has got no cap there and gets none.
        Due.is("needs(false) of 28", x.needs(false), 28);
        BottleLine alarm = Due.lineOf("B6123455020v604l09bb");
        alarm.jam();
        alarm.step(6);
        Due.is("needs(false) with an alarm", alarm.needs(false), 0);
        Due.is("needs(false) at first", new BottleLine().needs(false), 0);
    }

    private static void judgeCommands() {
        BottleLine x = Due.lineOf(LookTest.TEXT);
        x.step(6);
        String before = Due.wholeOf(x);
        int[] right = {101, 199, 200, 300, 500, 600, 700, 842, 800, 850, 951, 941, 931, 910};
        for (int command : right) {
            Due.is("judge(1, " + command + ")", x.judge(1, command), Due.NONE);
        }
        int[] wrong = {0, 1, 99, 100, 201, 210, 301, 310, 400, 401, 501, 510, 601, 610, 620, 630, 701, 710,
            801, 840, 841, 843, 860, 890, 950, 952, 942, 911, 912, 900, 901, 960, 961, 990, 999};
        for (int command : wrong) {
            Due.is("judge(1, " + command + ")", x.judge(1, command), 0);
        }
        Due.same("after judge", Due.wholeOf(x), before);
        Due.is("judge(1, 600) without valves", new BottleLine().judge(1, 600), 0);
        Due.is("judge(1, 890) of nine cells", Due.lineOf("B9123455020").judge(1, 890), 0);
        Due.is("judge(1, 880) of nine cells", Due.lineOf("B9123455020").judge(1, 880), Due.NONE);
    }

    private static void judgeRows() {
        BottleLine x = Due.lineOf(LookTest.TEXT);
        x.step(6);
        String before = Due.wholeOf(x);
        Due.is("one step, out is 1", x.judge(2, 101701), Due.NONE);
        Due.is("one step, out is 0", x.judge(2, 101700), 1);
        Due.is("three steps, out is 2", x.judge(2, 103702), Due.NONE);
        Due.is("out is 0, one step, out is 0", x.judge(3, 700101700), 2);
        Due.is("slip, mark at 5 is 2", x.judge(2, 200852), Due.NONE);
        Due.is("slip, mark at 4 is 2", x.judge(2, 200842), 1);
        Due.is("restart, mark at 1 is 1", x.judge(2, 500811), Due.NONE);
        Due.is("restart, mark at 0 is 1", x.judge(2, 500801), 1);
        Due.is("one step, valve 1", x.judge(2, 101610), Due.NONE);
        Due.is("one step, valve 0", x.judge(2, 101600), 1);
        Due.is("jam, a step with an alarm", x.judge(2, 300101), Due.NONE);
        Due.is("jam, a step after the alarm", x.judge(2, 300102), 1);
        Due.is("jam, step, step", x.judge(3, 300101101), 2);
        Due.is("jam, step, clear", x.judge(3, 300101400), Due.NONE);
        Due.is("jam, jam, steps", x.judge(3, 300300109), Due.NONE);
        Due.is("the second is wrong", x.judge(3, 101400999), 1);
        Due.is("leading zeros of two", x.judge(2, 101), 0);
        Due.is("leading zeros of three", x.judge(3, 101101), 0);
        Due.same("after judge", Due.wholeOf(x), before);
        x.jam();
        x.step(1);
        Due.is("clear, step, clear", x.judge(3, 400101400), 2);
        Due.is("step with an alarm", x.judge(1, 101), 0);
        Due.is("the alarm stays", x.about(9), 1);
    }

    private static void judgeBad() {
        BottleLine x = Due.lineOf(LookTest.TEXT);
        Due.is("judge(0, 0)", x.judge(0, 0), Due.BAD);
        Due.is("judge(-1, 0)", x.judge(-1, 0), Due.BAD);
        Due.is("judge(4, 101)", x.judge(4, 101), Due.BAD);
        Due.is("judge(most, 101)", x.judge(Integer.MAX_VALUE, 101), Due.BAD);
        Due.is("judge(1, -1)", x.judge(1, -1), Due.BAD);
        Due.is("judge(3, least)", x.judge(3, Integer.MIN_VALUE), Due.BAD);
        Due.is("judge(1, 999)", x.judge(1, 999), 0);
        Due.is("judge(1, 1000)", x.judge(1, 1000), Due.BAD);
        Due.is("judge(2, 999999)", x.judge(2, 999999), 0);
        Due.is("judge(2, 1000000)", x.judge(2, 1000000), Due.BAD);
        Due.is("judge(3, 999999999)", x.judge(3, 999999999), 0);
        Due.is("judge(3, 1000000000)", x.judge(3, 1000000000), Due.BAD);
        Due.is("judge(3, most)", x.judge(3, Integer.MAX_VALUE), Due.BAD);
    }
}
