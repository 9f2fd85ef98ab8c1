import java.util.ArrayDeque;
import java.util.ArrayList;
import java.util.List;
import java.util.regex.Pattern;

/**
 * The document told a second time, as literally and as unlike BottleLine as can be, for ModelTest:
 * bottles are objects, sets of orders and of jams are gone through one by one.
 */
final class Model {
    static final int UNKNOWN = -1, BAD = -2, LATE = -3, FULL = -4, NONE = -9;

    static final class Glass {
        int fill = 0;
        int valve = NONE;
        boolean cap, label, leaks;

        Glass copy() {
            Glass g = new Glass();
            g.fill = fill;
            g.valve = valve;
            g.cap = cap;
            g.label = label;
            g.leaks = leaks;
            return g;
        }
    }

    static final class Line {
        int c = 6, w = 1, p = 2, q = 3, k = 4, r = 5;
        int target, tolerance, each;
        List<Integer> drift = new ArrayList<>();
    }

    static final class World {
        final Line line;
        Glass[] glasses;
        int[] marks;
        List<Integer> setting = new ArrayList<>();
        List<Integer> queue = new ArrayList<>();
        List<Integer> off = new ArrayList<>();
        int caps, labels, number;
        boolean alarm, jammed;
        int out, escaped, rejected, sampled, byHand, passed;
        /** The bottle that the last step took from the line by the pusher or the end, and how. */
        Glass lastOut, lastPushed;

        World(Line line) {
            this.line = line;
            glasses = new Glass[line.c];
            marks = new int[line.c];
        }

        World copy() {
            World n = new World(line);
            for (int i = 0; i < line.c; i++) {
                n.glasses[i] = glasses[i] == null ? null : glasses[i].copy();
                n.marks[i] = marks[i];
            }
            n.setting = new ArrayList<>(setting);
            n.queue = new ArrayList<>(queue);
            n.caps = caps;
            n.labels = labels;
            n.number = number;
            n.alarm = alarm;
            n.jammed = jammed;
            n.out = out;
            n.escaped = escaped;
            n.rejected = rejected;
            n.sampled = sampled;
            n.byHand = byHand;
            n.passed = passed;
            return n;
        }

        boolean good(Glass g) {
            int low = line.target - line.tolerance;
            int high = line.target + line.tolerance;
            return g.fill >= low && g.fill <= high && g.cap && g.label;
        }

        void slip() {
            for (int i = line.c - 1; i > 0; i--) {
                marks[i] = marks[i - 1];
            }
            marks[0] = 0;
        }

        void restart() {
            for (int i = 0; i <= line.w; i++) {
                if (glasses[i] != null) {
                    marks[i] = 1;
                }
            }
        }

        boolean clear() {
            boolean taken = glasses[line.r] != null;
            if (taken) {
                byHand++;
            }
            glasses[line.r] = null;
            marks[line.r] = 0;
            alarm = false;
            return taken;
        }

        void step() {
            lastPushed = null;
            lastOut = glasses[line.c - 1];
            if (lastOut != null) {
                if (good(lastOut)) {
                    out++;
                } else {
                    escaped++;
                }
            }
            for (int i = line.c - 1; i > 0; i--) {
                glasses[i] = glasses[i - 1];
            }
            slip();
            glasses[0] = null;
            if (!queue.isEmpty()) {
                int entry = queue.remove(0);
                if (entry != 0) {
                    glasses[0] = new Glass();
                    glasses[0].leaks = entry == 2;
                }
            }
            for (Glass g : glasses) {
                if (g != null && g.leaks && g.fill > 0) {
                    g.fill--;
                }
            }
            if (glasses[0] != null && !setting.isEmpty()) {
                int v = number % setting.size();
                glasses[0].valve = v;
                glasses[0].fill = off.contains(v) ? 0 : zeroTo99(setting.get(v) + line.drift.get(v));
            }
            Glass weighed = glasses[line.w];
            if (weighed != null && weighed.valve != NONE && !off.contains(weighed.valve)) {
                int lack = line.target - weighed.fill;
                int change = lack < 0 ? -(-lack / 2) : lack / 2;
                setting.set(weighed.valve, zeroTo99(setting.get(weighed.valve) + change));
            }
            if (glasses[line.p] != null && caps != 0) {
                glasses[line.p].cap = true;
                caps--;
            }
            if (glasses[line.q] != null && labels != 0) {
                glasses[line.q].label = true;
                labels--;
            }
            Glass checked = glasses[line.k];
            if (checked != null && !good(checked)) {
                marks[line.k] = 1;
            } else if (checked != null && marks[line.k] == 0) {
                passed++;
                if (line.each != 0 && passed % line.each == 0) {
                    marks[line.k] = 2;
                }
            }
            if (marks[line.r] != 0) {
                if (glasses[line.r] != null && !jammed) {
                    lastPushed = glasses[line.r];
                    glasses[line.r] = null;
                    if (marks[line.r] == 1) {
                        rejected++;
                    } else {
                        sampled++;
                    }
                    marks[line.r] = 0;
                } else {
                    alarm = true;
                }
            }
            number++;
        }

        int steps(int n) {
            for (int i = 0; i < n; i++) {
                if (alarm) {
                    return i;
                }
                step();
            }
            return n;
        }

        int number(int what) {
            int set = 0;
            for (int i = 0; i < line.c; i++) {
                set += glasses[i] == null ? 0 : Math.round(Math.pow(2, i));
            }
            int[] all = {caps, labels, queue.size(), number, alarm ? 1 : 0, jammed ? 1 : 0, out, escaped,
                rejected, sampled, byHand, passed, set};
            return all[what - 5];
        }

        int marksSet() {
            int n = 0;
            for (int m : marks) {
                if (m > 0) {
                    n++;
                }
            }
            return n;
        }
    }

    static int zeroTo99(int v) {
        return v < 0 ? 0 : v > 99 ? 99 : v;
    }

    String text = "";
    Line line = new Line();
    World world = new World(line);
    ArrayDeque<World> acts = new ArrayDeque<>();
    World[] slots = new World[2];
    List<int[]> seen = new ArrayList<>();
    long x = 0;

    // ---- the text

    private static final Pattern FORM =
            Pattern.compile("B[6-9][0-9]{9}(v[0-9]{3}|c[0-9]{2}|l[0-9]{2}|[bx-])*");

    /** Returns the line's world if the text is complete, otherwise null. */
    static World read(String text) {
        if (!FORM.matcher(text).matches()) {
            return null;
        }
        Line l = new Line();
        l.c = text.charAt(1) - '0';
        l.w = text.charAt(2) - '0';
        l.p = text.charAt(3) - '0';
        l.q = text.charAt(4) - '0';
        l.k = text.charAt(5) - '0';
        l.r = text.charAt(6) - '0';
        if (!(1 <= l.w && l.w < l.p && l.p < l.q && l.q < l.k && l.k < l.r && l.r <= l.c - 1)) {
            return null;
        }
        l.target = Integer.parseInt(text.substring(7, 9));
        l.tolerance = text.charAt(9) - '0';
        l.each = text.charAt(10) - '0';
        World w = new World(l);
        int at = 11;
        while (at < text.length()) {
            char kind = text.charAt(at);
            if (kind == 'v') {
                w.setting.add(Integer.parseInt(text.substring(at + 1, at + 3)));
                l.drift.add(text.charAt(at + 3) - '0' - 4);
                at += 4;
            } else if (kind == 'c' || kind == 'l') {
                int more = Integer.parseInt(text.substring(at + 1, at + 3));
                if (more == 0) {
                    return null;
                }
                w.caps += kind == 'c' ? more : 0;
                w.labels += kind == 'l' ? more : 0;
                at += 3;
            } else {
                w.queue.add(kind == 'b' ? 1 : kind == 'x' ? 2 : 0);
                at++;
            }
        }
        boolean small = w.setting.size() <= 4 && w.caps <= 99 && w.labels <= 99 && w.queue.size() <= 24;
        return small ? w : null;
    }

    /** All beginnings of complete texts up to the stations. */
    private static final List<String> HEADS = heads();

    private static List<String> heads() {
        List<String> found = new ArrayList<>();
        for (int n = 600000; n <= 999999; n++) {
            if (read("B" + n + "0000") != null) {
                found.add("B" + n);
            }
        }
        return found;
    }

    static boolean canGoOn(String begin) {
        if (begin.length() < 11) {
            for (String head : HEADS) {
                String whole = head + "0000";
                String tail = begin.length() > 7 ? begin.substring(7) : "";
                if (begin.length() <= 7 ? whole.startsWith(begin)
                        : begin.startsWith(head) && tail.matches("[0-9]*")) {
                    return true;
                }
            }
            return false;
        }
        // The smallest ends of a part that is begun.
        for (String end : new String[] {"", "0", "1", "00", "01", "000"}) {
            if (read(begin + end) != null) {
                return true;
            }
        }
        return false;
    }

    int write(int letter) {
        if (letter < 0 || letter > 255) {
            return BAD;
        }
        if (text.length() == 90) {
            return FULL;
        }
        text += (char) letter;
        return text.length();
    }

    int wipe() {
        int n = text.length();
        text = "";
        return n;
    }

    int fault() {
        for (int i = 0; i < text.length(); i++) {
            if (!canGoOn(text.substring(0, i + 1))) {
                return i;
            }
        }
        return read(text) != null ? NONE : text.length();
    }

    int line() {
        World w = read(text);
        if (w == null) {
            return LATE;
        }
        world = w;
        line = w.line;
        acts.clear();
        slots = new World[2];
        return w.setting.size();
    }

    // ---- looked at

    int about(int what) {
        switch (what) {
            case 0: return line.c;
            case 1: return line.drift.size();
            case 2: return line.target;
            case 3: return line.tolerance;
            case 4: return line.each;
            case 18: return acts.size();
            case 19: return seen.size();
            case 20: return text.length();
            default: return what < 0 || what > 20 ? BAD : world.number(what);
        }
    }

    int place(int what) {
        int[] all = {line.w, line.p, line.q, line.k, line.r};
        return what < 0 || what > 4 ? BAD : all[what];
    }

    int cell(int cell, int what) {
        if (cell < 0 || cell >= line.c) {
            return UNKNOWN;
        }
        if (what < 0 || what > 7) {
            return BAD;
        }
        if (what == 0) {
            return world.marks[cell];
        }
        Glass g = world.glasses[cell];
        if (g == null) {
            return what == 2 || what == 3 ? NONE : 0;
        }
        int[] all = {1, g.fill, g.valve, g.cap ? 1 : 0, g.label ? 1 : 0, g.leaks ? 1 : 0, world.good(g) ? 1 : 0};
        return all[what - 1];
    }

    int valve(int valve, int what) {
        if (valve < 0 || valve >= line.drift.size()) {
            return UNKNOWN;
        }
        if (what != 0 && what != 1) {
            return BAD;
        }
        return what == 0 ? world.setting.get(valve) : line.drift.get(valve) + 4;
    }

    int queue(int place) {
        if (place < 0 || place > 23) {
            return BAD;
        }
        return place >= world.queue.size() ? NONE : world.queue.get(place);
    }

    // ---- acts

    private void act() {
        acts.addLast(world.copy());
        if (acts.size() > 14) {
            acts.removeFirst();
        }
    }

    int step(int n) {
        if (n < 1 || n > 99) {
            return BAD;
        }
        if (world.alarm) {
            return LATE;
        }
        act();
        return world.steps(n);
    }

    int slip() {
        act();
        world.slip();
        return world.marksSet();
    }

    int jam() {
        act();
        world.jammed = !world.jammed;
        return world.jammed ? 1 : 0;
    }

    int clear() {
        if (!world.alarm) {
            return LATE;
        }
        act();
        return world.clear() ? 1 : 0;
    }

    int restart() {
        act();
        world.restart();
        return world.marksSet();
    }

    int lay(boolean labels, int n) {
        if (n < 1 || n > 9) {
            return BAD;
        }
        int then = n + (labels ? world.labels : world.caps);
        if (then > 99) {
            return FULL;
        }
        act();
        if (labels) {
            world.labels = then;
        } else {
            world.caps = then;
        }
        return then;
    }

    int set(int valve, int v) {
        if (valve < 0 || valve >= line.drift.size()) {
            return UNKNOWN;
        }
        if (v < 0 || v > 99) {
            return BAD;
        }
        act();
        return world.setting.set(valve, v);
    }

    int come(int what) {
        if (what < 0 || what > 2) {
            return BAD;
        }
        if (world.queue.size() == 24) {
            return FULL;
        }
        act();
        world.queue.add(what);
        return world.queue.size();
    }

    int undo() {
        if (acts.isEmpty()) {
            return LATE;
        }
        world = acts.removeLast();
        return acts.size();
    }

    // ---- asked

    int ahead(int n, int what) {
        if (n < 0 || n > 99 || what < 5 || what > 17) {
            return BAD;
        }
        World w = world.copy();
        w.steps(n);
        return w.number(what);
    }

    int goes(int cell, int what) {
        if (cell < 0 || cell >= line.c) {
            return UNKNOWN;
        }
        if (what != 0 && what != 1) {
            return BAD;
        }
        World w = world.copy();
        Glass mine = w.glasses[cell];
        if (mine == null) {
            return LATE;
        }
        for (int n = 1; n <= 60; n++) {
            int rejected = w.rejected;
            if (w.steps(1) == 0) {
                return NONE;
            }
            if (w.lastOut == mine) {
                return what == 0 ? n : w.good(mine) ? 1 : 2;
            }
            if (w.lastPushed == mine) {
                return what == 0 ? n : w.rejected == rejected + 1 ? 3 : 4;
            }
        }
        return NONE;
    }

    int best(int valve) {
        if (valve < 0 || valve >= line.drift.size()) {
            return UNKNOWN;
        }
        int best = -1;
        int most = -1;
        for (int v = 99; v >= 0; v--) {
            World w = world.copy();
            w.setting.set(valve, v);
            w.steps(30);
            if (w.out >= most) {
                most = w.out;
                best = v;
            }
        }
        return best;
    }

    int needs(boolean labels) {
        int[] outs = new int[41];
        for (int n = 0; n <= 40; n++) {
            World w = world.copy();
            if (labels) {
                w.labels = Math.min(w.labels + n, 99);
            } else {
                w.caps = Math.min(w.caps + n, 99);
            }
            w.steps(40);
            outs[n] = w.out;
        }
        int n = 0;
        while (outs[n] != outs[40]) {
            n++;
        }
        return n;
    }

    int judge(int n, int row) {
        if (n < 1 || n > 3 || row < 0 || Integer.toString(row).length() > 3 * n) {
            return BAD;
        }
        StringBuilder digits = new StringBuilder(Integer.toString(row));
        while (digits.length() < 3 * n) {
            digits.insert(0, '0');
        }
        World w = world.copy();
        for (int i = 0; i < n; i++) {
            if (!right(w, digits.substring(3 * i, 3 * i + 3))) {
                return i;
            }
        }
        return NONE;
    }

    private boolean right(World w, String command) {
        int a = command.charAt(1) - '0';
        int b = command.charAt(2) - '0';
        int ab = Integer.parseInt(command.substring(1));
        if (command.charAt(0) == '1') {
            return ab > 0 && w.steps(ab) == ab;
        }
        if (command.equals("200")) {
            w.slip();
            return true;
        }
        if (command.equals("300")) {
            w.jammed ^= true;
            return true;
        }
        if (command.equals("400")) {
            boolean was = w.alarm;
            w.clear();
            return was;
        }
        if (command.equals("500")) {
            w.restart();
            return true;
        }
        if (command.matches("6.0")) {
            return a < w.setting.size() && w.number % w.setting.size() == a;
        }
        if (command.charAt(0) == '7') {
            return w.out == ab;
        }
        if (command.charAt(0) == '8') {
            return a < line.c && w.marks[a] == b;
        }
        if (command.matches("9.[01]")) {
            return a < line.c && w.glasses[a] != null && (w.good(w.glasses[a]) ? 1 : 0) == b;
        }
        return false;
    }

    // ---- seen

    int see(int what, int n, int v) {
        if (what < 0 || what > 2 || n < 0 || n > 20 || v < 0 || v > 99) {
            return BAD;
        }
        if (seen.size() == 6) {
            return FULL;
        }
        seen.add(new int[] {what, n, v});
        return seen.size();
    }

    int unsee() {
        int n = seen.size();
        seen.clear();
        return n;
    }

    int which() {
        int set = 0;
        for (int i = 0; i <= 9; i++) {
            boolean all = true;
            for (int[] one : seen) {
                World w = world.copy();
                if (one[1] <= i) {
                    w.steps(one[1]);
                } else {
                    w.steps(i);
                    w.slip();
                    w.steps(one[1] - i);
                }
                int count = one[0] == 0 ? w.out : one[0] == 1 ? w.rejected : w.escaped;
                all &= count == one[2];
            }
            set += all ? Math.round(Math.pow(2, i)) : 0;
        }
        return set;
    }

    // ---- shares, chances

    private int outWithOn(List<Integer> on) {
        World w = world.copy();
        for (int v = 0; v < line.drift.size(); v++) {
            if (!on.contains(v)) {
                w.off.add(v);
            }
        }
        w.steps(30);
        return w.out;
    }

    /** Goes through all orders; returns the sum of the increases and the number of the orders. */
    private int[] orders(int valve, List<Integer> on) {
        if (on.size() == line.drift.size()) {
            return new int[] {0, 1};
        }
        int sum = 0;
        int count = 0;
        for (int v = 0; v < line.drift.size(); v++) {
            if (on.contains(v)) {
                continue;
            }
            List<Integer> more = new ArrayList<>(on);
            more.add(v);
            int[] rest = orders(valve, more);
            sum += rest[0];
            count += rest[1];
            if (v == valve) {
                sum += rest[1] * (outWithOn(more) - outWithOn(on));
            }
        }
        return new int[] {sum, count};
    }

    private static int part(long numerator, long denominator, boolean upper) {
        for (long d = 2; d <= denominator && d <= 1000; d++) {
            while (numerator % d == 0 && denominator % d == 0) {
                numerator /= d;
                denominator /= d;
            }
        }
        return (int) (upper ? numerator : denominator);
    }

    int share(int valve, boolean upper) {
        if (valve < 0 || valve >= line.drift.size()) {
            return UNKNOWN;
        }
        int[] found = orders(valve, new ArrayList<>());
        return part(found[0], found[1], upper);
    }

    private static long calm(World w, int n, int x) {
        if (w.alarm) {
            return 0;
        }
        if (n == 0) {
            return 1;
        }
        World free = w.copy();
        free.step();
        World stuck = w.copy();
        stuck.jammed = true;
        stuck.step();
        stuck.jammed = w.jammed;
        if (w.jammed) {
            return 10 * calm(stuck, n - 1, x);
        }
        return (10 - x) * calm(free, n - 1, x) + x * calm(stuck, n - 1, x);
    }

    int chance(int n, int x, boolean upper) {
        if (n < 1 || n > 6 || x < 0 || x > 10) {
            return BAD;
        }
        return part(calm(world, n, x), Math.round(Math.pow(10, n)), upper);
    }

    long seed(long v) {
        long was = x;
        x = v;
        return was;
    }

    int drawn(int m) {
        if (m < 1 || m > 20) {
            return BAD;
        }
        World w = world.copy();
        int sum = 0;
        while (m-- > 0) {
            x = x * 6364136223846793005L + 1442695040888963407L;
            int v = (int) (x >>> 33) % 10;
            if (v == 0) {
                w.slip();
            } else if (v == 1) {
                w.jammed = !w.jammed;
            } else if (v == 2 && w.alarm) {
                w.clear();
            } else if (v == 2) {
                w.restart();
            } else {
                w.steps(1);
            }
            sum += w.out - w.escaped;
        }
        return sum;
    }

    // ---- slots

    int keep(int slot) {
        if (slot != 0 && slot != 1) {
            return UNKNOWN;
        }
        slots[slot] = world.copy();
        return world.number;
    }

    int again(int slot) {
        if (slot != 0 && slot != 1) {
            return UNKNOWN;
        }
        if (slots[slot] == null) {
            return LATE;
        }
        world = slots[slot].copy();
        acts.clear();
        return world.number;
    }
}
