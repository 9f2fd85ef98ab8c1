/** Promises 1 to 5: a new object, write, wipe, fault, line. */
public final class TextTest {
    private static final String HEAD = "B6123455020";

    public static void main(String[] args) {
        newObject();
        write();
        wipe();
        faultInHead();
        faultInParts();
        faultInStocks();
        faultInLongTexts();
        line();
        lineFails();
        lineForgetsAndKeeps();
        Due.end("TextTest");
    }

    private static void newObject() {
        BottleLine x = new BottleLine();
        Due.is("new about(0)", x.about(0), 6);
        for (int what = 1; what <= 20; what++) {
            Due.is("new about(" + what + ")", x.about(what), 0);
        }
        for (int what = 0; what < 5; what++) {
            Due.is("new place(" + what + ")", x.place(what), what + 1);
        }
        for (int cell = 0; cell < 6; cell++) {
            for (int what = 0; what <= 7; what++) {
                Due.is("new cell(" + cell + ", " + what + ")", x.cell(cell, what), what == 2 || what == 3 ? Due.NONE : 0);
            }
        }
        Due.is("new valve(0, 0)", x.valve(0, 0), Due.UNKNOWN);
        Due.is("new queue(0)", x.queue(0), Due.NONE);
        Due.is("new fault()", x.fault(), 0);
        Due.is("new undo()", x.undo(), Due.LATE);
        Due.is("new again(0)", x.again(0), Due.LATE);
        Due.is("new again(1)", x.again(1), Due.LATE);
        Due.is("new clear()", x.clear(), Due.LATE);
        Due.is("new unsee()", x.unsee(), 0);
        Due.is("new seed(5)", x.seed(5), 0);
        Due.is("new wipe()", x.wipe(), 0);
    }

    private static void write() {
        BottleLine x = new BottleLine();
        Due.is("write(-1)", x.write(-1), Due.BAD);
        Due.is("write(256)", x.write(256), Due.BAD);
        Due.is("write(least)", x.write(Integer.MIN_VALUE), Due.BAD);
        Due.is("write(most)", x.write(Integer.MAX_VALUE), Due.BAD);
        Due.is("about(20) after bad letters", x.about(20), 0);
        Due.is("write(0)", x.write(0), 1);
        Due.is("write(255)", x.write(255), 2);
        for (int length = 3; length <= 90; length++) {
            Due.is("write to " + length, x.write('B'), length);
        }
        Due.is("write to 91", x.write('B'), Due.FULL);
        Due.is("write(256) to 91", x.write(256), Due.BAD);
        Due.is("about(20) when full", x.about(20), 90);
    }

    private static void wipe() {
        BottleLine x = new BottleLine();
        x.write('B');
        x.write('6');
        Due.is("wipe() of two", x.wipe(), 2);
        Due.is("wipe() again", x.wipe(), 0);
        Due.is("about(20) after wipe", x.about(20), 0);
        Due.is("fault() after wipe", x.fault(), 0);
        for (int i = 0; i < 90; i++) {
            x.write('b');
        }
        Due.is("wipe() of ninety", x.wipe(), 90);
        Due.is("write after wipe", x.write('B'), 1);
    }

    private static void fault(String text, int want) {
        BottleLine x = new BottleLine();
        for (int i = 0; i < text.length(); i++) {
            x.write(text.charAt(i));
        }
        Due.is("fault() of " + text, x.fault(), want);
        Due.is("fault() once more of " + text, x.fault(), want);
        Due.is("about(20) of " + text, x.about(20), text.length());
    }

    private static void faultInHead() {
        fault("", 0);
        fault("b6", 0);
        fault("6", 0);
        fault("B", 1);
        fault("B5", 1);
        fault("B:", 1);
        fault("B/", 1);
        fault("Bb", 1);
        fault("B6", 2);
        fault("B60", 2);
        fault("B62", 2);
        fault("B61", 3);
        fault("B613", 3);
        fault("B61234", 6);
        fault("B612344", 6);
        fault("B612346", 6);
        fault("B612345", 7);
        fault("B72", 3);
        fault("B73", 2);
        fault("B84", 2);
        fault("B94", 3);
        fault("B95", 2);
        fault("B911", 3);
        fault("B910", 3);
        fault("B915", 4);
        fault("B916", 3);
        fault("B9156", 5);
        fault("B9157", 4);
        fault("B9155", 4);
        fault("B91566", 5);
        fault("B91568", 5);
        fault("B91567", 6);
        fault("B915679", 6);
        fault("B915678", 7);
        fault("B945678", 7);
        fault("B612345a", 7);
        fault("B6123455", 8);
        fault("B6123455-", 8);
        fault("B61234550", 9);
        fault("B61234550b", 9);
        fault("B612345502", 10);
        fault("B612345502c", 10);
        fault("B6123455020", Due.NONE);
        fault("B6123459999", Due.NONE);
    }

    private static void faultInParts() {
        fault(HEAD + "0", 11);
        fault(HEAD + "B", 11);
        fault(HEAD + "z", 11);
        fault(HEAD + (char) 0, 11);
        fault(HEAD + (char) 255, 11);
        fault(HEAD + "V504", 11);
        fault(HEAD + "v", 12);
        fault(HEAD + "vb", 12);
        fault(HEAD + "v5", 13);
        fault(HEAD + "v5v", 13);
        fault(HEAD + "v50", 14);
        fault(HEAD + "v50-", 14);
        fault(HEAD + "v504", Due.NONE);
        fault(HEAD + "v000", Due.NONE);
        fault(HEAD + "v999", Due.NONE);
        fault(HEAD + "v5040", 15);
        fault(HEAD + "v504v504v504v504", Due.NONE);
        fault(HEAD + "v504v504v504v504v", 27);
        fault(HEAD + "v504v504v504v504v504", 27);
        fault(HEAD + "v504v504bv504v504xv", 29);
        fault(HEAD + "b-x", Due.NONE);
        fault(HEAD + "b-xv", 15);
        fault(HEAD + "xl05bc05-v504b", Due.NONE);
    }

    private static void faultInStocks() {
        for (String s : new String[] {"c", "l"}) {
            String other = s.equals("c") ? "l" : "c";
            fault(HEAD + s, 12);
            fault(HEAD + s + s, 12);
            fault(HEAD + s + "0", 13);
            fault(HEAD + s + "00", 13);
            fault(HEAD + s + "0b", 13);
            fault(HEAD + s + "01", Due.NONE);
            fault(HEAD + s + "99", Due.NONE);
            fault(HEAD + s + "98" + s, 15);
            fault(HEAD + s + "98" + s + "0", 16);
            fault(HEAD + s + "98" + s + "1", 15);
            fault(HEAD + s + "98" + s + "00", 16);
            fault(HEAD + s + "98" + s + "01", Due.NONE);
            fault(HEAD + s + "98" + s + "02", 16);
            fault(HEAD + s + "99" + s, 14);
            fault(HEAD + s + "99" + other + "99", Due.NONE);
            fault(HEAD + s + "50" + s + "5", 15);
            fault(HEAD + s + "50" + s + "49", Due.NONE);
            fault(HEAD + s + "51" + s + "4", 16);
            fault(HEAD + s + "51" + s + "49", 16);
            fault(HEAD + s + "09" + s + "90", Due.NONE);
            fault(HEAD + s + "10" + s + "90", 15);
            fault(HEAD + s + "10" + s + "9", 15);
        }
    }

    private static void faultInLongTexts() {
        String twelve = "bx-bx-bx-bx-";
        fault(HEAD + twelve + twelve, Due.NONE);
        fault(HEAD + twelve + twelve + "b", 35);
        fault(HEAD + twelve + twelve + "-", 35);
        fault(HEAD + twelve + twelve + "c01l01v504", Due.NONE);
        fault(HEAD + twelve + "c01" + twelve + "c01x", 41);
        fault(HEAD + "c01".repeat(26) + "b", Due.NONE);
        fault(HEAD + "c01".repeat(26) + "l", 90);
        fault(HEAD + "c01".repeat(26) + "z", 89);
    }

    private static void line() {
        BottleLine x = new BottleLine();
        Due.write(x, "B9245787304v015v990c30bl12xv404-c09");
        Due.is("line()", x.line(), 3);
        int[] about = {9, 3, 73, 0, 4, 39, 12, 3, 0, 0, 0, 0, 0, 0, 0, 0, 0, 0, 0, 0, 35};
        for (int what = 0; what < about.length; what++) {
            Due.is("about(" + what + ") of a line", x.about(what), about[what]);
        }
        int[] places = {2, 4, 5, 7, 8};
        for (int what = 0; what < 5; what++) {
            Due.is("place(" + what + ") of a line", x.place(what), places[what]);
        }
        int[] settings = {1, 99, 40};
        int[] drifts = {5, 0, 4};
        for (int valve = 0; valve < 3; valve++) {
            Due.is("valve(" + valve + ", 0) of a line", x.valve(valve, 0), settings[valve]);
            Due.is("valve(" + valve + ", 1) of a line", x.valve(valve, 1), drifts[valve]);
        }
        Due.is("queue(0) of a line", x.queue(0), 1);
        Due.is("queue(1) of a line", x.queue(1), 2);
        Due.is("queue(2) of a line", x.queue(2), 0);
        Due.is("queue(3) of a line", x.queue(3), Due.NONE);
        Due.write(x, HEAD);
        Due.is("line() without parts", x.line(), 0);
        Due.is("valve(0, 0) without valves", x.valve(0, 0), Due.UNKNOWN);
        Due.is("about(5) without stocks", x.about(5), 0);
        Due.is("about(7) without entries", x.about(7), 0);
        Due.is("about(0) of the second line", x.about(0), 6);
    }

    private static void lineFails() {
        for (String text : new String[] {"", "B", HEAD + "v50", HEAD + "z", "B71245", HEAD + "c99c01"}) {
            BottleLine x = Due.lineOf(HEAD + "v504c05l05bbx");
            x.step(3);
            x.keep(0);
            Due.write(x, text);
            String before = Due.wholeOf(x);
            Due.is("line() of " + text, x.line(), Due.LATE);
            Due.same("after line() of " + text, Due.wholeOf(x), before);
            Due.is("again(0) after a failed line", x.again(0), 3);
        }
    }

    private static void lineForgetsAndKeeps() {
        BottleLine x = Due.lineOf(HEAD + "v504c05l05bbx");
        String begun = Due.stateOf(x);
        x.step(5);
        x.jam();
        x.restart();
        x.step(9);
        x.keep(0);
        x.keep(1);
        x.see(0, 1, 2);
        x.seed(77);
        Due.is("acts before line", x.about(18), 4);
        Due.is("line() again", x.line(), 1);
        Due.same("a line begun again", Due.stateOf(x), begun);
        Due.is("acts after line", x.about(18), 0);
        Due.is("undo() after line", x.undo(), Due.LATE);
        Due.is("again(0) after line", x.again(0), Due.LATE);
        Due.is("again(1) after line", x.again(1), Due.LATE);
        Due.is("observations after line", x.about(19), 1);
        Due.is("text after line", x.about(20), HEAD.length() + 13);
        Due.is("random number after line", x.seed(1), 77);
    }
}
