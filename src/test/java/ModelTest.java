import java.util.Random;

/** Promises 1 to 33: the same calls, drawn by fixed seeds, on BottleLine and on the Model. */
public final class ModelTest {
    private static final int RUNS = 4000;
    /** An object is promised for 512 calls. */
    private static final int MOST_CALLS = 512;
    private static final int CALLS_OF_A_LOOK = 200;
    private static final int CALLS_OF_A_TEXT = 92;

    private final Random dice;
    private final BottleLine real = new BottleLine();
    private final Model model = new Model();
    private final String name;

    private ModelTest(int seed) {
        dice = new Random(seed);
        name = "run " + seed + " ";
    }

    public static void main(String[] args) {
        for (int seed = 1; seed <= RUNS; seed++) {
            new ModelTest(seed).run();
        }
        Due.end("ModelTest");
    }

    private int roll(int least, int most) {
        return least + dice.nextInt(most - least + 1);
    }

    /** Mostly within the bounds, now and then just or far outside. */
    private int near(int least, int most) {
        int luck = roll(1, 40);
        if (luck == 1) {
            return least - 1;
        }
        if (luck == 2) {
            return most + 1;
        }
        if (luck == 3) {
            return dice.nextInt();
        }
        return roll(least, most);
    }

    private void run() {
        int left = MOST_CALLS - CALLS_OF_A_LOOK;
        if (roll(1, 10) > 1) {
            left -= text(goodText()) + 1;
            Due.is(name + "line()", real.line(), model.line());
        }
        while (left > CALLS_OF_A_TEXT) {
            left -= call();
            if (roll(1, 4) == 1) {
                peek();
                left--;
            }
        }
        look();
    }

    private int text(String text) {
        Due.is(name + "wipe()", real.wipe(), model.wipe());
        for (int i = 0; i < text.length(); i++) {
            int letter = text.charAt(i);
            Due.is(name + "write(" + letter + ")", real.write(letter), model.write(letter));
        }
        Due.is(name + "fault() of " + text, real.fault(), model.fault());
        return text.length() + 2;
    }

    private String goodText() {
        int c = roll(6, 9);
        StringBuilder text = new StringBuilder("B").append(c);
        int last = 0;
        for (int j = 0; j < 5; j++) {
            last = roll(last + 1, c - 5 + j);
            text.append(last);
        }
        int target = roll(1, 4) == 1 ? new int[] {0, 0, 1, 2, 5, 97, 99}[roll(0, 6)] : roll(10, 90);
        text.append(target / 10).append(target % 10).append(roll(0, 9)).append(roll(0, 3) * roll(0, 3));
        int valves = roll(0, 4);
        for (int i = 0; i < valves; i++) {
            int setting = Math.max(0, Math.min(99, target + roll(-20, 20)));
            text.append('v').append(setting / 10).append(setting % 10).append(roll(0, 9));
        }
        for (int i = roll(0, 2); i > 0; i--) {
            text.append(roll(0, 1) == 0 ? 'c' : 'l').append(roll(0, 3)).append(roll(1, 9));
        }
        for (int i = roll(0, 24); i > 0; i--) {
            text.append("bbbbbbxx-".charAt(roll(0, 8)));
        }
        return text.toString();
    }

    private String anyText() {
        StringBuilder text = new StringBuilder(goodText());
        int luck = roll(1, 5);
        if (luck == 1) {
            text.setLength(roll(0, text.length()));
        } else if (luck == 2) {
            text.setCharAt(roll(0, text.length() - 1), (char) roll(0, 255));
        } else if (luck == 3) {
            text.setCharAt(roll(0, text.length() - 1), "Bvclbx-0123456789".charAt(roll(0, 16)));
        } else {
            while (text.length() < 89 && roll(1, 12) > 1) {
                String more = new String[] {"v505", "c", "l", "l33", "c33", "bb", "x", "-", "c9", "l0"}[roll(0, 9)];
                text.append(more);
            }
        }
        if (text.length() > 90) {
            text.setLength(90);
        }
        return text.toString();
    }

    private int call() {
        int luck = roll(0, 99);
        if (luck < 40) {
            act();
        } else if (luck < 80) {
            ask();
        } else if (luck < 98) {
            other();
        } else {
            int calls = text(roll(0, 1) == 0 ? goodText() : anyText());
            if (roll(0, 2) == 0) {
                Due.is(name + "line()", real.line(), model.line());
            }
            return calls + 1;
        }
        return 1;
    }

    private void act() {
        int n = roll(0, 19);
        boolean b = dice.nextBoolean();
        if (n < 6) {
            int k = roll(0, 4) == 0 ? near(1, 99) : near(1, 3);
            Due.is(name + "step(" + k + ")", real.step(k), model.step(k));
        } else if (n < 7) {
            Due.is(name + "slip()", real.slip(), model.slip());
        } else if (n < 8) {
            Due.is(name + "jam()", real.jam(), model.jam());
        } else if (n < 9) {
            Due.is(name + "restart()", real.restart(), model.restart());
        } else if (n < 11) {
            Due.is(name + "clear()", real.clear(), model.clear());
        } else if (n < 13) {
            int k = near(1, 9);
            Due.is(name + "lay(" + b + ", " + k + ")", real.lay(b, k), model.lay(b, k));
        } else if (n < 14) {
            int v = near(0, 3);
            int s = near(0, 99);
            Due.is(name + "set(" + v + ", " + s + ")", real.set(v, s), model.set(v, s));
        } else if (n < 18) {
            int k = near(0, 2);
            Due.is(name + "come(" + k + ")", real.come(k), model.come(k));
        } else {
            Due.is(name + "undo()", real.undo(), model.undo());
        }
    }

    private void ask() {
        int n = roll(0, 99);
        boolean b = dice.nextBoolean();
        if (n < 25) {
            int k = roll(0, 3) == 0 ? near(0, 99) : near(0, 12);
            int what = near(5, 17);
            Due.is(name + "ahead(" + k + ", " + what + ")", real.ahead(k, what), model.ahead(k, what));
        } else if (n < 45) {
            int cell = near(0, 8);
            int what = near(0, 1);
            Due.is(name + "goes(" + cell + ", " + what + ")", real.goes(cell, what), model.goes(cell, what));
        } else if (n < 47) {
            int v = near(0, 3);
            Due.is(name + "best(" + v + ")", real.best(v), model.best(v));
        } else if (n < 50) {
            Due.is(name + "needs(" + b + ")", real.needs(b), model.needs(b));
        } else if (n < 75) {
            judge();
        } else if (n < 85) {
            Due.is(name + "which()", real.which(), model.which());
        } else if (n < 90) {
            int v = near(0, 3);
            Due.is(name + "share(" + v + ", " + b + ")", real.share(v, b), model.share(v, b));
        } else {
            int k = near(1, 6);
            int x = near(0, 10);
            Due.is(name + "chance(" + k + ", " + x + ", " + b + ")", real.chance(k, x, b), model.chance(k, x, b));
        }
    }

    private void judge() {
        int n = near(1, 3);
        int row = 0;
        for (int i = 0; i < Math.max(1, Math.min(3, n)); i++) {
            row = row * 1000 + command();
        }
        if (roll(1, 30) == 1) {
            row = dice.nextInt();
        } else if (roll(1, 30) == 1) {
            row = new int[] {999, 1000, 999999, 1000000, 999999999, 1000000000, -1, 0}[roll(0, 7)];
        }
        Due.is(name + "judge(" + n + ", " + row + ")", real.judge(n, row), model.judge(n, row));
    }

    private int command() {
        int d = roll(1, 9);
        if (roll(1, 12) == 1) {
            return roll(0, 999);
        }
        switch (d) {
            case 1: return 100 + roll(1, 9);
            case 6: return 600 + 10 * roll(0, 3);
            case 7: return 700 + Math.max(0, Math.min(99, model.world.out + roll(0, 2)));
            case 8: return 800 + 10 * roll(0, 8) + roll(0, 2);
            case 9: return 900 + 10 * roll(0, 8) + roll(0, 1);
            default: return d * 100;
        }
    }

    private void other() {
        int n = roll(0, 99);
        if (n < 30) {
            int what = near(0, 2);
            int k = near(0, 20);
            int v = near(0, 99);
            if (roll(0, 9) > 0 && what >= 0 && what <= 2 && k >= 0 && k <= 20) {
                // Mostly what can be true, so that which has something to find.
                v = Math.min(99, model.ahead(k, new int[] {11, 13, 12}[what]) + (roll(0, 4) == 0 ? 1 : 0));
            }
            Due.is(name + "see(" + what + ", " + k + ", " + v + ")", real.see(what, k, v), model.see(what, k, v));
        } else if (n < 38) {
            Due.is(name + "unsee()", real.unsee(), model.unsee());
        } else if (n < 45) {
            long v = dice.nextLong();
            Due.is(name + "seed(" + v + ")", real.seed(v), model.seed(v));
        } else if (n < 70) {
            int m = near(1, 20);
            Due.is(name + "drawn(" + m + ")", real.drawn(m), model.drawn(m));
        } else if (n < 85) {
            int slot = near(0, 1);
            Due.is(name + "keep(" + slot + ")", real.keep(slot), model.keep(slot));
        } else {
            int slot = near(0, 1);
            Due.is(name + "again(" + slot + ")", real.again(slot), model.again(slot));
        }
    }

    private void peek() {
        int n = roll(0, 9);
        if (n < 3) {
            about(near(0, 20));
        } else if (n < 8) {
            cell(near(0, 8), near(0, 7));
        } else if (n < 9) {
            valve(near(0, 3), near(0, 1));
        } else {
            queue(near(0, 23));
        }
    }

    private void look() {
        for (int what = -1; what <= 21; what++) {
            about(what);
        }
        for (int what = -1; what <= 5; what++) {
            Due.is(name + "place(" + what + ")", real.place(what), model.place(what));
        }
        for (int cell = -1; cell <= 9; cell++) {
            for (int what = -1; what <= 8; what++) {
                cell(cell, what);
            }
        }
        for (int valve = -1; valve <= 4; valve++) {
            for (int what = -1; what <= 2; what++) {
                valve(valve, what);
            }
        }
        for (int place = -1; place <= 24; place++) {
            queue(place);
        }
    }

    private void about(int what) {
        Due.is(name + "about(" + what + ")", real.about(what), model.about(what));
    }

    private void cell(int cell, int what) {
        Due.is(name + "cell(" + cell + ", " + what + ")", real.cell(cell, what), model.cell(cell, what));
    }

    private void valve(int valve, int what) {
        Due.is(name + "valve(" + valve + ", " + what + ")", real.valve(valve, what), model.valve(valve, what));
    }

    private void queue(int place) {
        Due.is(name + "queue(" + place + ")", real.queue(place), model.queue(place));
    }
}
