/** Promises 32 and 33: keep, again. */
public final class SlotsTest {
    public static void main(String[] args) {
        keep();
        again();
        eachPartIsKept();
        Due.end("SlotsTest");
    }

    private static void keep() {
        BottleLine x = Due.lineOf(LookTest.TEXT);
        Due.is("keep(2)", x.keep(2), Due.UNKNOWN);
        Due.is("keep(-1)", x.keep(-1), Due.UNKNOWN);
        Due.is("again(2)", x.again(2), Due.UNKNOWN);
        Due.is("again(-1)", x.again(-1), Due.UNKNOWN);
        Due.is("again(0) of nothing", x.again(0), Due.LATE);
        Due.is("keep(0)", x.keep(0), 0);
        x.step(3);
        Due.is("keep(1)", x.keep(1), 3);
        Due.is("keep is no act", x.about(18), 1);
        Due.is("undo() after keep", x.undo(), 0);
        Due.is("again(1) after undo", x.again(1), 3);
    }

    private static void again() {
        BottleLine x = Due.lineOf(LookTest.TEXT);
        String begun = Due.stateOf(x);
        x.keep(0);
        x.step(6);
        x.jam();
        String later = Due.stateOf(x);
        Due.is("again(1) of nothing", x.again(1), Due.LATE);
        Due.is("acts after a failed again", x.about(18), 2);
        x.keep(1);
        x.see(0, 1, 1);
        x.seed(44);
        Due.is("again(0)", x.again(0), 0);
        Due.same("after again(0)", Due.stateOf(x), begun);
        Due.is("no acts", x.about(18), 0);
        Due.is("undo() after again", x.undo(), Due.LATE);
        Due.is("observations stay", x.about(19), 1);
        Due.is("the random number stays", x.seed(1), 44);
        Due.is("the text stays", x.about(20), LookTest.TEXT.length());
        Due.is("again(1)", x.again(1), 6);
        Due.same("after again(1)", Due.stateOf(x), later);
        x.jam();
        x.step(4);
        Due.is("again(1) once more", x.again(1), 6);
        Due.same("after again(1) once more", Due.stateOf(x), later);
        x.jam();
        x.step(1);
        Due.is("keep(1) over the old", x.keep(1), 7);
        x.step(1);
        Due.is("again(1) of the new", x.again(1), 7);
        Due.is("jam of the new", x.about(10), 0);
        Due.is("again(0) still", x.again(0), 0);
        Due.same("after again(0) still", Due.stateOf(x), begun);
    }

    private static void eachPartIsKept() {
        BottleLine x = Due.lineOf("B8123465022v524v404v604c05l05bxb-bbxbbxbb");
        x.step(8);
        x.restart();
        x.slip();
        x.jam();
        x.step(9);
        Due.is("alarm", x.about(9), 1);
        x.clear();
        x.step(9);
        Due.is("alarm again", x.about(9), 1);
        String then = Due.stateOf(x);
        x.keep(1);
        x.clear();
        x.jam();
        x.set(0, 9);
        x.set(2, 9);
        x.lay(false, 9);
        x.lay(true, 9);
        x.come(1);
        x.slip();
        x.restart();
        x.step(30);
        x.again(1);
        Due.same("after much else", Due.stateOf(x), then);
    }
}
