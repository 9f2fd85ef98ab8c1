/** Promises 25 to 27: see, unsee, which. */
public final class SeenTest {
    public static void main(String[] args) {
        see();
        unsee();
        which();
        whichLater();
        Due.end("SeenTest");
    }

    private static void see() {
        BottleLine x = new BottleLine();
        Due.is("see(-1, 0, 0)", x.see(-1, 0, 0), Due.BAD);
        Due.is("see(3, 0, 0)", x.see(3, 0, 0), Due.BAD);
        Due.is("see(0, -1, 0)", x.see(0, -1, 0), Due.BAD);
        Due.is("see(0, 21, 0)", x.see(0, 21, 0), Due.BAD);
        Due.is("see(0, 0, -1)", x.see(0, 0, -1), Due.BAD);
        Due.is("see(0, 0, 100)", x.see(0, 0, 100), Due.BAD);
        Due.is("none yet", x.about(19), 0);
        Due.is("see(0, 0, 0)", x.see(0, 0, 0), 1);
        Due.is("see(2, 20, 99)", x.see(2, 20, 99), 2);
        for (int n = 3; n <= 6; n++) {
            Due.is("see to " + n, x.see(1, n, 0), n);
        }
        Due.is("see to 7", x.see(1, 1, 1), Due.FULL);
        Due.is("see(3, 1, 1) to 7", x.see(3, 1, 1), Due.BAD);
        Due.is("observations", x.about(19), 6);
        Due.is("see is no act", x.about(18), 0);
    }

    private static void unsee() {
        BottleLine x = new BottleLine();
        Due.is("unsee() of none", x.unsee(), 0);
        x.see(0, 0, 5);
        x.see(0, 0, 5);
        Due.is("which() of what is false", x.which(), 0);
        Due.is("unsee() of two", x.unsee(), 2);
        Due.is("observations", x.about(19), 0);
        Due.is("which() without any", x.which(), 1023);
        Due.is("see after unsee", x.see(1, 1, 1), 1);
    }

    private static void which(BottleLine x, int want, int... seen) {
        x.unsee();
        StringBuilder name = new StringBuilder("which() of");
        for (int i = 0; i < seen.length; i += 3) {
            x.see(seen[i], seen[i + 1], seen[i + 2]);
            name.append(' ').append(seen[i]).append(' ').append(seen[i + 1]).append(' ').append(seen[i + 2]);
        }
        Due.is(name.toString(), x.which(), want);
    }

    /**
     * A bad bottle is marked at 4 in the fifth step and comes to the pusher at 6 in the seventh.
     * A slip after 5 steps makes an alarm in the sixth; after 6 steps the bottle escapes in the ninth.
     */
    private static void which() {
        BottleLine x = Due.lineOf("B8123465020v504b");
        which(x, 1023);
        which(x, 927, 1, 7, 1);
        which(x, 96, 1, 7, 0);
        which(x, 1023, 1, 6, 0);
        which(x, 0, 1, 6, 1);
        which(x, 64, 2, 9, 1);
        which(x, 1023, 2, 8, 0);
        which(x, 1023 - 64, 2, 9, 0);
        which(x, 32, 1, 20, 0, 2, 20, 0);
        which(x, 64, 1, 20, 0, 2, 20, 1);
        which(x, 0, 1, 20, 1, 2, 20, 1);
        which(x, 927, 0, 20, 0, 1, 20, 1, 1, 0, 0, 1, 7, 1, 2, 20, 0, 1, 6, 0);
        which(x, 0, 0, 20, 1);
    }

    private static void whichLater() {
        BottleLine x = Due.lineOf("B8123465020v504c09l09v504b");
        x.step(3);
        which(x, 1023, 0, 6, 1);
        which(x, 1023, 0, 5, 0);
        which(x, 0, 0, 5, 1);
        x.step(6);
        which(x, 1023, 0, 0, 1);
        BottleLine bad = Due.lineOf("B8123465020v504b");
        bad.step(5);
        which(bad, 1, 1, 20, 0, 2, 20, 0);
        which(bad, 2, 2, 20, 1);
        which(bad, 1020, 1, 20, 1);
        bad.slip();
        bad.step(1);
        Due.is("alarm", bad.about(9), 1);
        which(bad, 1023, 1, 20, 0, 2, 20, 0);
        which(bad, 0, 2, 20, 1);
        BottleLine last = Due.lineOf("B8123465020v504-----b");
        // From now on the mark is made in the tenth step: a slip after 9 or fewer does not matter.
        which(last, 1023, 1, 12, 1);
        last.step(1);
        which(last, 1023 - 512, 1, 11, 1);
    }
}
