/** What the tests share: they tell each answer that is not the one that is due. */
final class Due {
    static final int UNKNOWN = -1, BAD = -2, LATE = -3, FULL = -4, NONE = -9;
    private static int asked = 0;
    private static int wrong = 0;

    private Due() {
    }

    static void is(String call, long got, long want) {
        asked++;
        if (got != want) {
            wrong++;
            System.out.println(call + " answered " + got + ", due is " + want);
        }
    }

    static void same(String call, String got, String want) {
        asked++;
        if (!got.equals(want)) {
            wrong++;
            System.out.println(call + "\n  has     " + got + "\n  due is  " + want);
        }
    }

    static void end(String test) {
        System.out.println(test + ": " + asked + " answers, " + wrong + " not as due");
        if (wrong != 0) {
            System.exit(1);
        }
    }

    static void write(BottleLine x, String text) {
        x.wipe();
        for (int i = 0; i < text.length(); i++) {
            is("write in " + text, x.write(text.charAt(i)), i + 1);
        }
    }

    static BottleLine lineOf(String text) {
        BottleLine x = new BottleLine();
        write(x, text);
        is("line of " + text, x.line(), text.chars().filter(letter -> letter == 'v').count());
        return x;
    }

    /** All that acts change and undo brings back; with few calls, since an object is promised for 512 only. */
    static String stateOf(BottleLine x) {
        StringBuilder all = new StringBuilder();
        for (int what = 5; what <= 17; what++) {
            all.append(x.about(what)).append(' ');
        }
        int bottles = x.about(17);
        int cells = x.about(0);
        for (int cell = 0; cell < cells; cell++) {
            all.append('|').append(x.cell(cell, 0)).append(' ');
            for (int what = 2; what <= 7 && (bottles >> cell & 1) == 1; what++) {
                all.append(x.cell(cell, what)).append(' ');
            }
        }
        all.append("| valves ");
        int valves = x.about(1);
        for (int valve = 0; valve < valves; valve++) {
            all.append(x.valve(valve, 0)).append(' ').append(x.valve(valve, 1)).append(' ');
        }
        all.append("| queue ");
        int entries = x.about(7);
        for (int place = 0; place < entries; place++) {
            all.append(x.queue(place)).append(' ');
        }
        return all.toString();
    }

    /** All that can be looked at without changing the object. */
    static String wholeOf(BottleLine x) {
        StringBuilder all = new StringBuilder(stateOf(x));
        int[] others = {0, 1, 2, 3, 4, 18, 19, 20};
        for (int what : others) {
            all.append("; ").append(x.about(what));
        }
        for (int what = 0; what < 5; what++) {
            all.append(", ").append(x.place(what));
        }
        return all.append(" fault ").append(x.fault()).toString();
    }

    /** All that an object holds, what acts, slots and the text bring back too; the object is used up by this. */
    static String depthOf(BottleLine x) {
        StringBuilder all = new StringBuilder(wholeOf(x));
        all.append(" which ").append(x.which()).append(" x ").append(x.seed(0));
        for (int left = x.undo(); left >= 0; left = x.undo()) {
            all.append("\n  undone to ").append(left).append(": ").append(stateOf(x));
        }
        for (int slot = 0; slot < 2; slot++) {
            all.append("\n  slot ").append(slot).append(": ").append(x.again(slot)).append(' ').append(stateOf(x));
        }
        all.append("\n  line ").append(x.line()).append(": ").append(stateOf(x));
        return all.toString();
    }
}
