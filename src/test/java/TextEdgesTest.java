/** The boundary cases of the line's text and of promises 1 to 5; above each test the sentence that names them. */
public final class TextEdgesTest {
    private static final String HEAD = "B6123455020";
    /** All stations as far on as they can be, all numbers as great as they can be. */
    private static final String GREATEST = "B9456789999v999v999v999v999c99l99" + "x".repeat(24);

    public static void main(String[] args) {
        cellsFrom6To9();
        scaleAtLeast1();
        pusherAtMostBeforeTheEnd();
        stationsAscend();
        stationsLeaveRoomForTheNext();
        numbersOfTheHead();
        beginsWithB();
        digitsOnly();
        otherLettersOfParts();
        atMostFourValves();
        leastAndGreatestValve();
        oneOrMoreInAStock();
        atMost99Altogether();
        stocksAreCountedApart();
        atMost24Entries();
        completeTextsOfAnyLength();
        incompleteTexts();
        firstFaultCounts();
        textIsEmptyAtFirst();
        lettersFrom0To255();
        fullAt90();
        badBeforeFull();
        wipeOfEmptyAndFull();
        wipeLeavesTheLine();
        lineOfTheGreatestText();
        lineOf90Letters();
        lineWithoutParts();
        lineIsLateWithAFault();
        lineBeginsAnew();
        greatAndSmallLinesInTurn();
        objectsAreApart();
        Due.end("TextEdgesTest");
    }

    private static BottleLine written(String text) {
        BottleLine x = new BottleLine();
        for (int i = 0; i < text.length(); i++) {
            Due.is("write in " + text, x.write(text.charAt(i)), i + 1);
        }
        return x;
    }

    private static void fault(String text, int want) {
        BottleLine x = written(text);
        Due.is("fault() of " + text, x.fault(), want);
        int valves = (int) text.chars().filter(letter -> letter == 'v').count();
        Due.is("line() of " + text, x.line(), want == Due.NONE ? valves : Due.LATE);
    }

    /** "A line has c cells (6 to 9)" */
    private static void cellsFrom6To9() {
        for (int c = 0; c <= 9; c++) {
            fault("B" + c, c < 6 ? 1 : 2);
            fault("B" + c + "123450000", c < 6 ? 1 : Due.NONE);
        }
    }

    /** "with w at least 1" */
    private static void scaleAtLeast1() {
        for (int c = 6; c <= 9; c++) {
            fault("B" + c + "0", 2);
            fault("B" + c + "1", 3);
            fault("B" + c + "012340000", 2);
        }
    }

    /** "and r at most c - 1" */
    private static void pusherAtMostBeforeTheEnd() {
        for (int c = 6; c <= 9; c++) {
            fault("B" + c + "1234" + (c - 1), 7);
            fault("B" + c + "1234" + (c - 1) + "0000", Due.NONE);
            fault("B" + c + "1234" + c, 6);
            fault("B" + c + "1234" + c + "0000", 6);
        }
    }

    /** "w (scale) < p (capper) < q (labeller) < k (check) < r (pusher)" */
    private static void stationsAscend() {
        String head = "B924567";
        for (int at = 3; at <= 6; at++) {
            char before = head.charAt(at - 1);
            fault(head.substring(0, at) + before, at);
            fault(head.substring(0, at) + (char) (before - 1), at);
            fault(head.substring(0, at) + (char) (before + 1), at + 1);
        }
    }

    /** "no complete text begins with the characters before it and this character": the later stations need cells. */
    private static void stationsLeaveRoomForTheNext() {
        for (int c = 6; c <= 9; c++) {
            String before = "B" + c;
            for (int station = 0; station < 5; station++) {
                int most = c - 5 + station;
                fault(before + most, station + 3);
                for (int digit = most + 1; digit <= 9; digit++) {
                    fault(before + digit, station + 2);
                }
                before += station + 1;
            }
        }
    }

    /** "a target (0 to 99), a tolerance (0 to 9), a number each (0 to 9)" */
    private static void numbersOfTheHead() {
        for (int digit = 0; digit <= 9; digit++) {
            BottleLine x = written("B612345" + digit + (9 - digit) + digit + (9 - digit));
            Due.is("line()", x.line(), 0);
            Due.is("target", x.about(2), 10 * digit + 9 - digit);
            Due.is("tolerance", x.about(3), digit);
            Due.is("each", x.about(4), 9 - digit);
        }
    }

    /** "A complete text of a line is "B"; .." */
    private static void beginsWithB() {
        for (int letter = 0; letter <= 255; letter++) {
            fault("" + (char) letter, letter == 'B' ? 1 : 0);
        }
    }

    /** "a digit for each ..; two digits ..; a digit each ..": the neighbours of the digits are none. */
    private static void digitsOnly() {
        String text = HEAD + "v504c05l05";
        for (int at = 1; at < text.length(); at++) {
            char letter = text.charAt(at);
            boolean isPart = letter == 'v' || letter == 'c' || letter == 'l';
            for (char other : new char[] {'/', ':', (char) 0, (char) 255, (char) ('0' + 128), ' ', 'B'}) {
                fault(text.substring(0, at) + other, at);
            }
            boolean isComplete = at == 10 || at == 14 || at == 17 || at == 20;
            boolean isStation = at >= 2 && at <= 6;
            fault(text.substring(0, at) + '7', isPart || isStation ? at : isComplete ? Due.NONE : at + 1);
        }
    }

    /** "and then any number of parts": no part begins with another letter. */
    private static void otherLettersOfParts() {
        for (int letter = 0; letter <= 255; letter++) {
            int want = 11;
            if (letter == 'v' || letter == 'c' || letter == 'l') {
                want = 12;
            } else if (letter == 'b' || letter == 'x' || letter == '-') {
                want = Due.NONE;
            }
            BottleLine x = written(HEAD + (char) letter);
            Due.is("fault() with " + letter, x.fault(), want);
        }
    }

    /** "at most 4 valves" */
    private static void atMostFourValves() {
        String text = HEAD;
        for (int valves = 0; valves <= 4; valves++) {
            fault(text, Due.NONE);
            fault(text + "v", valves < 4 ? 12 + 4 * valves : 27);
            text += "v504";
        }
        fault(text, 27);
        fault(HEAD + "bv504xv504-v504c01v504l01v", 36);
    }

    /** "each with a setting (0 to 99) and a drift (-4 to 5)" */
    private static void leastAndGreatestValve() {
        BottleLine x = written(HEAD + "v000v999v994v009");
        Due.is("line()", x.line(), 4);
        int[] settings = {0, 99, 99, 0};
        int[] drifts = {0, 9, 4, 9};
        for (int valve = 0; valve < 4; valve++) {
            Due.is("setting of " + valve, x.valve(valve, 0), settings[valve]);
            Due.is("drift plus 4 of " + valve, x.valve(valve, 1), drifts[valve]);
        }
    }

    /** "so many more caps (1 or more) .., so many more labels (1 or more)" */
    private static void oneOrMoreInAStock() {
        for (String part : new String[] {"c", "l"}) {
            fault(HEAD + part + "0", 13);
            fault(HEAD + part + "00", 13);
            fault(HEAD + part + "01", Due.NONE);
            fault(HEAD + part + "10", Due.NONE);
            fault(HEAD + part + "05" + part + "00", 16);
            fault(HEAD + part + "98" + part + "00", 16);
        }
    }

    /** "at most 99 of each altogether" */
    private static void atMost99Altogether() {
        for (String part : new String[] {"c", "l"}) {
            for (int had = 1; had <= 99; had++) {
                String text = HEAD + part + had / 10 + had % 10;
                int room = 99 - had;
                fault(text, Due.NONE);
                fault(text + part, room == 0 ? 14 : 15);
                for (int tens = 0; tens <= 9 && room > 0; tens++) {
                    fault(text + part + tens, tens * 10 <= room ? 16 : 15);
                }
                if (room > 0) {
                    fault(text + part + room / 10 + room % 10, Due.NONE);
                    int over = room + 1;
                    fault(text + part + over / 10 + over % 10, over % 10 == 0 ? 15 : 16);
                }
            }
        }
    }

    /** "99 of each": caps and labels do not fill one another's stock. */
    private static void stocksAreCountedApart() {
        fault(HEAD + "c99l99", Due.NONE);
        fault(HEAD + "l99c99", Due.NONE);
        fault(HEAD + "l99c99l", 17);
        fault(HEAD + "l98c99l", 18);
        fault(HEAD + "c98l99c01", Due.NONE);
        fault(HEAD + "c98l01c02", 19);
    }

    /** "a bottle, a leaking bottle, a gap at the end of the queue; at most 24" */
    private static void atMost24Entries() {
        for (String entry : new String[] {"b", "x", "-"}) {
            fault(HEAD + entry.repeat(23), Due.NONE);
            fault(HEAD + entry.repeat(24), Due.NONE);
            for (String more : new String[] {"b", "x", "-"}) {
                fault(HEAD + entry.repeat(24) + more, 35);
                fault(HEAD + entry.repeat(23) + "v504" + more + "c01" + more, 42);
            }
        }
        fault(HEAD + "b".repeat(24) + "v", 36);
    }

    /** "no complete text (of any length) begins with ..": the 90 characters of the text do not count here. */
    private static void completeTextsOfAnyLength() {
        String text = HEAD + "c01".repeat(26);
        fault(text, Due.NONE);
        fault(text + "b", Due.NONE);
        fault(text + "v", 90);
        fault(text + "c", 90);
        fault(text + "l", 90);
        fault(text + "0", 89);
        fault(HEAD + "c01".repeat(25) + "bbb" + "c", 90);
        fault(HEAD + "c01".repeat(25) + "b" + "v50", 90);
        fault(HEAD + "c01".repeat(25) + "b" + "c0b", 89);
    }

    /** "if there is none but the text is not complete, it is its length" */
    private static void incompleteTexts() {
        String text = HEAD + "v504c05l05";
        for (int length = 0; length <= text.length(); length++) {
            boolean isComplete = length == 11 || length == 15 || length == 18 || length == 21;
            fault(text.substring(0, length), isComplete ? Due.NONE : length);
        }
    }

    /** "the index of the first character that cannot stand at its place" */
    private static void firstFaultCounts() {
        fault("AA", 0);
        fault("B5zzz", 1);
        fault("B612345zz20", 7);
        fault(HEAD + "vz0zb", 12);
        fault(HEAD + "zz", 11);
        fault(HEAD + "c99c01v504v504v504v504v504", 14);
        fault(" " + HEAD, 0);
        fault(HEAD + " ", 11);
        fault(HEAD + HEAD, 11);
    }

    /** "Creates an object with the line that is there at first, begun, and an empty text." */
    private static void textIsEmptyAtFirst() {
        BottleLine x = new BottleLine();
        Due.is("about(20)", x.about(20), 0);
        Due.is("fault()", x.fault(), 0);
        Due.is("line()", x.line(), Due.LATE);
        Due.is("wipe()", x.wipe(), 0);
    }

    /** "letter: 0 to 255" */
    private static void lettersFrom0To255() {
        int[] wrong = {-1, 256, -256, 65536 + 'B', 256 + 'B', Integer.MIN_VALUE, Integer.MAX_VALUE};
        for (int letter : wrong) {
            BottleLine x = new BottleLine();
            Due.is("write(" + letter + ")", x.write(letter), Due.BAD);
            Due.is("about(20)", x.about(20), 0);
            Due.is("write(B)", x.write('B'), 1);
            Due.is("fault()", x.fault(), 1);
        }
        for (int from = 0; from < 256; from += 64) {
            BottleLine x = new BottleLine();
            for (int i = 0; i < 64; i++) {
                Due.is("write(" + (from + i) + ")", x.write(from + i), i + 1);
            }
        }
    }

    /** "FULL if it already has 90 characters" */
    private static void fullAt90() {
        BottleLine x = written(HEAD + "c01".repeat(26));
        Due.is("about(20)", x.about(20), 89);
        Due.is("the 90th", x.write('b'), 90);
        Due.is("the 91st", x.write('z'), Due.FULL);
        Due.is("the 91st, again", x.write('b'), Due.FULL);
        Due.is("about(20)", x.about(20), 90);
        Due.is("the text is as before", x.fault(), Due.NONE);
        Due.is("line()", x.line(), 0);
        Due.is("one bottle", x.about(7), 1);
        Due.is("FULL after line, too", x.write('b'), Due.FULL);
    }

    /** "Each @return names them in the order in which they are checked" */
    private static void badBeforeFull() {
        BottleLine x = written("B".repeat(90));
        Due.is("write(256) when full", x.write(256), Due.BAD);
        Due.is("write(-1) when full", x.write(-1), Due.BAD);
        Due.is("write(255) when full", x.write(255), Due.FULL);
        Due.is("write(0) when full", x.write(0), Due.FULL);
    }

    /** "Makes the text empty. Returns the length that it had." */
    private static void wipeOfEmptyAndFull() {
        BottleLine x = written("z".repeat(90));
        Due.is("wipe() of 90", x.wipe(), 90);
        Due.is("wipe() of none", x.wipe(), 0);
        Due.is("fault() of none", x.fault(), 0);
        for (int i = 0; i < 90; i++) {
            Due.is("write after wipe", x.write((HEAD + "c01".repeat(26) + "b").charAt(i)), i + 1);
        }
        Due.is("fault() of the new text", x.fault(), Due.NONE);
        Due.is("wipe() of 90 again", x.wipe(), 90);
    }

    /** "Makes the text empty.": and nothing else. */
    private static void wipeLeavesTheLine() {
        BottleLine x = written(HEAD + "v504c05l05bbx");
        x.line();
        x.step(2);
        x.keep(1);
        String before = Due.stateOf(x);
        Due.is("wipe()", x.wipe(), 24);
        Due.same("after wipe()", Due.stateOf(x), before);
        Due.is("the act is still remembered", x.undo(), 0);
        Due.is("the slot is still kept", x.again(1), 2);
        Due.is("line() of no text", x.line(), Due.LATE);
        Due.same("after line() of no text", Due.stateOf(x), before);
    }

    /** "There are at most 4 valves ..; 99 ..; The queue contains at most 24 entries" */
    private static void lineOfTheGreatestText() {
        BottleLine x = written(GREATEST);
        Due.is("fault()", x.fault(), Due.NONE);
        Due.is("line()", x.line(), 4);
        int[] about = {9, 4, 99, 9, 9, 99, 99, 24, 0, 0, 0, 0, 0, 0, 0, 0, 0, 0, 0, 0, 57};
        for (int what = 0; what < about.length; what++) {
            Due.is("about(" + what + ")", x.about(what), about[what]);
        }
        for (int what = 0; what < 5; what++) {
            Due.is("place(" + what + ")", x.place(what), what + 4);
        }
        for (int place = 0; place < 24; place++) {
            Due.is("queue(" + place + ")", x.queue(place), 2);
        }
        Due.is("step(99)", x.step(99), 99);
    }

    /** "The text is a sequence of at most 90 characters" */
    private static void lineOf90Letters() {
        BottleLine x = written(HEAD + "c01".repeat(26) + "x");
        Due.is("line()", x.line(), 0);
        Due.is("caps", x.about(5), 26);
        Due.is("queue(0)", x.queue(0), 2);
        Due.is("queue(1)", x.queue(1), Due.NONE);
        Due.is("about(20)", x.about(20), 90);
    }

    /** "and then any number of parts": none, too. */
    private static void lineWithoutParts() {
        BottleLine x = written("B6123450000");
        Due.is("line()", x.line(), 0);
        for (int what = 1; what <= 19; what++) {
            Due.is("about(" + what + ")", x.about(what), 0);
        }
        Due.is("valve(0, 0)", x.valve(0, 0), Due.UNKNOWN);
        Due.is("queue(0)", x.queue(0), Due.NONE);
    }

    /** "LATE if the text has a fault" */
    private static void lineIsLateWithAFault() {
        for (String more : new String[] {"v50", "c0", "l", "z", "c00", "c99c", "bB"}) {
            BottleLine x = written(HEAD + "v504c05l05bbx" + more);
            x.come(2);
            x.step(1);
            x.keep(0);
            x.jam();
            String before = Due.wholeOf(x);
            Due.is("line() with " + more, x.line(), Due.LATE);
            Due.same("after line() with " + more, Due.wholeOf(x), before);
            Due.is("the acts stay remembered", x.undo(), 2);
            Due.is("the slot stays kept", x.again(0), 1);
        }
    }

    /** "When a line is begun, all cells are empty, all marks are 0, the pusher is free .., all counts are 0" */
    private static void lineBeginsAnew() {
        BottleLine x = written("B6123455021v504v604c05l05bbxbbbbb");
        x.line();
        String begun = Due.stateOf(x);
        x.step(8);
        x.restart();
        x.jam();
        x.step(9);
        Due.is("there is an alarm", x.about(9), 1);
        x.set(0, 9);
        x.come(0);
        x.lay(true, 9);
        Due.is("line()", x.line(), 2);
        Due.same("after line()", Due.stateOf(x), begun);
        Due.is("step(1)", x.step(1), 1);
    }

    /** "in place of the present one": nothing of a greater line stays behind. */
    private static void greatAndSmallLinesInTurn() {
        BottleLine x = written(GREATEST);
        x.line();
        x.step(20);
        x.slip();
        Due.write(x, "B6123450000");
        Due.is("line() of the small one", x.line(), 0);
        Due.is("cell(6, 0)", x.cell(6, 0), Due.UNKNOWN);
        Due.is("valve(0, 1)", x.valve(0, 1), Due.UNKNOWN);
        Due.is("queue(0)", x.queue(0), Due.NONE);
        Due.is("cells with bottles", x.about(17), 0);
        Due.is("come(1)", x.come(1), 1);
        x.step(1);
        Due.is("no valve fills", x.cell(0, 3), Due.NONE);
        Due.write(x, "B9123450000v129");
        Due.is("line() of nine cells", x.line(), 1);
        for (int cell = 0; cell < 9; cell++) {
            Due.is("mark of " + cell, x.cell(cell, 0), 0);
            Due.is("bottle in " + cell, x.cell(cell, 1), 0);
        }
        Due.is("setting", x.valve(0, 0), 12);
        Due.is("valve(1, 0)", x.valve(1, 0), Due.UNKNOWN);
        Due.is("stock of caps", x.about(5), 0);
        Due.is("entries", x.about(7), 0);
    }

    /** What one object does is nothing to another one. */
    private static void objectsAreApart() {
        BottleLine one = written(HEAD + "v504c05l05bbx");
        one.line();
        BottleLine other = new BottleLine();
        one.step(3);
        one.see(0, 0, 9);
        one.seed(9);
        one.keep(0);
        Due.is("text of the other", other.about(20), 0);
        Due.is("steps of the other", other.about(8), 0);
        Due.is("acts of the other", other.about(18), 0);
        Due.is("observations of the other", other.about(19), 0);
        Due.is("x of the other", other.seed(0), 0);
        Due.is("slot of the other", other.again(0), Due.LATE);
        Due.is("valve of the other", other.valve(0, 0), Due.UNKNOWN);
    }
}
