/** Promises 6 to 10: about, place, cell, valve, queue; and the parts of a step, one by one. */
public final class LookTest {
    /** Two valves (50, drift 0; 52, drift 2), every second bottle is a sample. */
    static final String TEXT = "B6123455022v504v526c09l08bxb-b";

    public static void main(String[] args) {
        about();
        place();
        cell();
        valve();
        queue();
        scale();
        limits();
        checkAndSamples();
        leaking();
        Due.end("LookTest");
    }

    private static void about() {
        BottleLine x = Due.lineOf(TEXT);
        x.see(0, 1, 1);
        x.see(1, 1, 1);
        x.step(6);
        x.jam();
        x.jam();
        int[] after6 = {6, 2, 50, 2, 2, 6, 5, 0, 6, 0, 0, 0, 0, 0, 0, 0, 2, 58, 3, 2, 30};
        for (int what = 0; what < after6.length; what++) {
            Due.is("about(" + what + ") after 6", x.about(what), after6[what]);
        }
        x.step(1);
        int[] after7 = {6, 2, 50, 2, 2, 5, 5, 0, 7, 0, 0, 1, 0, 0, 1, 0, 3, 20, 4, 2, 30};
        for (int what = 0; what < after7.length; what++) {
            Due.is("about(" + what + ") after 7", x.about(what), after7[what]);
        }
        x.step(3);
        Due.is("out after 10", x.about(11), 2);
        Due.is("sampled after 10", x.about(14), 2);
        Due.is("passed after 10", x.about(16), 4);
        Due.is("cells with a bottle after 10", x.about(17), 0);
        Due.is("about(-1)", x.about(-1), Due.BAD);
        Due.is("about(21)", x.about(21), Due.BAD);
        Due.is("about(least)", x.about(Integer.MIN_VALUE), Due.BAD);
        Due.is("about(most)", x.about(Integer.MAX_VALUE), Due.BAD);
    }

    private static void place() {
        BottleLine x = Due.lineOf("B9" + "13578" + "0000");
        for (int what = 0; what < 4; what++) {
            Due.is("place(" + what + ")", x.place(what), 2 * what + 1);
        }
        Due.is("place(4)", x.place(4), 8);
        Due.is("place(-1)", x.place(-1), Due.BAD);
        Due.is("place(5)", x.place(5), Due.BAD);
        Due.is("place(most)", x.place(Integer.MAX_VALUE), Due.BAD);
    }

    private static void cell(BottleLine x, int cell, int... want) {
        for (int what = 0; what <= 7; what++) {
            Due.is("cell(" + cell + ", " + what + ") at " + x.about(8), x.cell(cell, what), want[what]);
        }
    }

    private static void cell() {
        BottleLine x = Due.lineOf(TEXT);
        x.step(3);
        cell(x, 0, 0, 1, 50, 0, 0, 0, 0, 0);
        cell(x, 1, 0, 1, 53, 1, 0, 0, 1, 0);
        cell(x, 2, 0, 1, 50, 0, 1, 0, 0, 0);
        cell(x, 3, 0, 0, Due.NONE, Due.NONE, 0, 0, 0, 0);
        x.step(3);
        cell(x, 0, 0, 0, Due.NONE, Due.NONE, 0, 0, 0, 0);
        cell(x, 1, 0, 1, 50, 0, 0, 0, 0, 0);
        cell(x, 3, 0, 1, 50, 0, 1, 1, 0, 1);
        cell(x, 4, 2, 1, 50, 1, 1, 1, 1, 1);
        cell(x, 5, 0, 1, 50, 0, 1, 1, 0, 1);
        x.restart();
        cell(x, 1, 1, 1, 50, 0, 0, 0, 0, 0);
        Due.is("cell(-1, 0)", x.cell(-1, 0), Due.UNKNOWN);
        Due.is("cell(6, 0)", x.cell(6, 0), Due.UNKNOWN);
        Due.is("cell(6, 8)", x.cell(6, 8), Due.UNKNOWN);
        Due.is("cell(most, -1)", x.cell(Integer.MAX_VALUE, -1), Due.UNKNOWN);
        Due.is("cell(5, 8)", x.cell(5, 8), Due.BAD);
        Due.is("cell(0, -1)", x.cell(0, -1), Due.BAD);
        BottleLine dry = new BottleLine();
        dry.come(2);
        dry.step(1);
        cell(dry, 0, 0, 1, 0, Due.NONE, 0, 0, 1, 0);
        BottleLine wide = Due.lineOf("B9123455020b");
        wide.step(9);
        Due.is("cell(8, 0) of nine", wide.cell(8, 0), 0);
        Due.is("cell(9, 0) of nine", wide.cell(9, 0), Due.UNKNOWN);
    }

    private static void valve() {
        BottleLine x = Due.lineOf(TEXT);
        Due.is("valve(0, 0)", x.valve(0, 0), 50);
        Due.is("valve(0, 1)", x.valve(0, 1), 4);
        Due.is("valve(1, 0)", x.valve(1, 0), 52);
        Due.is("valve(1, 1)", x.valve(1, 1), 6);
        x.step(3);
        Due.is("valve(1, 0) corrected", x.valve(1, 0), 51);
        Due.is("valve(1, 1) stays", x.valve(1, 1), 6);
        Due.is("valve(2, 0)", x.valve(2, 0), Due.UNKNOWN);
        Due.is("valve(2, 2)", x.valve(2, 2), Due.UNKNOWN);
        Due.is("valve(-1, 0)", x.valve(-1, 0), Due.UNKNOWN);
        Due.is("valve(1, 2)", x.valve(1, 2), Due.BAD);
        Due.is("valve(0, -1)", x.valve(0, -1), Due.BAD);
        BottleLine ends = Due.lineOf("B6123455020v000v999");
        Due.is("least drift", ends.valve(0, 1), 0);
        Due.is("greatest drift", ends.valve(1, 1), 9);
    }

    private static void queue() {
        BottleLine x = Due.lineOf(TEXT);
        int[] want = {1, 2, 1, 0, 1};
        for (int place = 0; place < 24; place++) {
            Due.is("queue(" + place + ")", x.queue(place), place < 5 ? want[place] : Due.NONE);
        }
        x.step(2);
        Due.is("queue(0) after 2", x.queue(0), 1);
        Due.is("queue(1) after 2", x.queue(1), 0);
        Due.is("queue(2) after 2", x.queue(2), 1);
        Due.is("queue(3) after 2", x.queue(3), Due.NONE);
        Due.is("queue(-1)", x.queue(-1), Due.BAD);
        Due.is("queue(24)", x.queue(24), Due.BAD);
        for (int i = x.about(7); i < 24; i++) {
            x.come(2);
        }
        Due.is("queue(23) when full", x.queue(23), 2);
        Due.is("queue(24) when full", x.queue(24), Due.BAD);
    }

    /** The setting changes by half the difference, rounded toward 0, after the next bottle was filled. */
    private static void scale() {
        BottleLine x = Due.lineOf("B6123455020v404bbbb");
        x.step(2);
        Due.is("setting after the first weighing", x.valve(0, 0), 45);
        Due.is("fill of the second bottle", x.cell(0, 2), 40);
        x.step(1);
        Due.is("setting after the second weighing", x.valve(0, 0), 50);
        Due.is("fill of the third bottle", x.cell(0, 2), 45);
        x.step(1);
        Due.is("setting after the third weighing", x.valve(0, 0), 52);
        Due.is("fill of the fourth bottle", x.cell(0, 2), 50);
        BottleLine over = Due.lineOf("B6123455020v534b");
        over.step(2);
        Due.is("3 too much", over.valve(0, 0), 52);
        BottleLine one = Due.lineOf("B6123455020v514b");
        one.step(2);
        Due.is("1 too much", one.valve(0, 0), 51);
        BottleLine later = Due.lineOf("B8234565020v404b");
        later.step(2);
        Due.is("not yet weighed", later.valve(0, 0), 40);
        later.step(1);
        Due.is("weighed at 2", later.valve(0, 0), 45);
    }

    private static void limits() {
        BottleLine low = Due.lineOf("B6123450000v020bb");
        low.step(1);
        Due.is("fill at least 0", low.cell(0, 2), 0);
        BottleLine high = Due.lineOf("B6123459900v979v044bb-");
        high.step(1);
        Due.is("fill at most 99", high.cell(0, 2), 99);
        BottleLine down = Due.lineOf("B6123450000v109b");
        down.set(0, 4);
        down.step(1);
        down.set(0, 1);
        down.step(1);
        Due.is("setting at least 0", down.valve(0, 0), 0);
        BottleLine up = Due.lineOf("B6123459900v104b");
        up.step(1);
        up.set(0, 90);
        up.step(1);
        Due.is("setting at most 99", up.valve(0, 0), 99);
    }

    private static void checkAndSamples() {
        BottleLine edge = Due.lineOf("B6123455020v524v484v534v474c09l09bbbb");
        edge.step(5);
        Due.is("2 too much is good", edge.cell(4, 7), 1);
        Due.is("2 too much has no mark", edge.cell(4, 0), 0);
        edge.step(1);
        Due.is("2 too little is good", edge.cell(4, 7), 1);
        edge.step(1);
        Due.is("3 too much is not good", edge.cell(4, 7), 0);
        Due.is("3 too much has mark 1", edge.cell(4, 0), 1);
        edge.step(1);
        Due.is("3 too little is not good", edge.cell(4, 7), 0);
        Due.is("passed", edge.about(16), 2);
        edge.step(5);
        Due.is("two out", edge.about(11), 2);
        Due.is("two rejected", edge.about(13), 2);
        BottleLine bare = Due.lineOf("B6123455020v504l09bb");
        bare.step(5);
        Due.is("without a cap it is not good", bare.cell(4, 7), 0);
        BottleLine plain = Due.lineOf("B6123455020v504c09bb");
        plain.step(5);
        Due.is("without a label it is not good", plain.cell(4, 7), 0);
        BottleLine third = Due.lineOf("B6123455023v504c09l09bbbbbbb");
        third.step(20);
        Due.is("every third is a sample", third.about(14), 2);
        Due.is("the others are out", third.about(11), 5);
        Due.is("all passed", third.about(16), 7);
        BottleLine marked = Due.lineOf("B6123455021v504c09l09b");
        marked.step(1);
        marked.restart();
        marked.step(4);
        Due.is("a good bottle with a mark keeps it", marked.cell(4, 0), 1);
        Due.is("it does not pass", marked.about(16), 0);
        marked.step(1);
        Due.is("it is rejected", marked.about(13), 1);
    }

    private static void leaking() {
        BottleLine x = Due.lineOf("B6123450390v024c09l09x");
        int[] fills = {2, 1, 0, 0, 0, 0};
        for (int cell = 0; cell < 6; cell++) {
            x.step(1);
            Due.is("leaking in cell " + cell, x.cell(cell, 2), fills[cell]);
        }
        // 5 steps after it was filled with 53 it is 48, which is good when it leaves.
        BottleLine leaves = Due.lineOf("B6123455020v534c09l09x");
        leaves.step(7);
        Due.is("leaves with 48", leaves.about(11), 1);
        BottleLine escapes = Due.lineOf("B6123455020v524c09l09x");
        escapes.step(7);
        Due.is("passes with 48", escapes.about(16), 1);
        Due.is("leaves with 47", escapes.about(12), 1);
    }
}
