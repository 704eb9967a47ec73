/** Bounds of THE TEXT and of a WELL's parts (terms, part 1) and of promises 1 to 5, sentence by sentence. */
public final class TextBoundsTest {
    private static final String FULLEST = "ET100T911T192T993Q0100Q1911Q2109Q3910D00000D11939D20120D31909";
    private static final String FIGURES = "0123456789";
    private static final Check C = new Check();

    public static void main(String[] args) {
        aByteIs0To255();
        fullAt64();
        badAheadOfFull();
        wipedEmptyAndFull();
        newObjectIsNothing();
        everyStartOfAWell();
        noneOrMoreParts();
        fourOfAKindAtMost();
        figuresOfAThing();
        figuresOfAQuestion();
        figuresOfADeed();
        onlyWhatIsToldAhead();
        numberedEachKindForItself();
        theFirstFaultCounts();
        lengthIsSetAside();
        wellIsLate();
        wellCounts();
        madeAnew();
        C.end();
    }

    private static void fault(String text, int want) {
        C.due("fault of " + text, Check.faultOf(text), want);
    }

    /** "A byte (0 .. 255) comes behind THE TEXT: how long it is. BAD". */
    private static void aByteIs0To255() {
        EyeDrink x = new EyeDrink();
        C.due("write(0)", x.write(0), 1);
        C.due("write(255)", x.write(255), 2);
        int[] off = {-1, 256, 'E' + 256, 'E' - 256, 65536, Integer.MIN_VALUE, Integer.MAX_VALUE};
        for (int letter : off) {
            C.due("write(" + letter + ")", x.write(letter), EyeDrink.BAD);
            C.due("bytes", x.about(9), 2);
        }
    }

    /** "THE TEXT is bytes (64 at most)", "FULL: there are 64." */
    private static void fullAt64() {
        EyeDrink x = new EyeDrink();
        for (int i = 1; i <= 63; i++) {
            x.write('E');
        }
        C.due("the last byte", x.write(0), 64);
        C.due("one more", x.write(0), EyeDrink.FULL);
        C.due("and one more", x.write(255), EyeDrink.FULL);
        C.due("bytes", x.about(9), 64);
        C.due("wipe", x.wipe(), 64);
        C.due("the first one anew", x.write('E'), 1);
        C.due("nothing of the old text is left", x.fault(), EyeDrink.NONE);
    }

    /** "BAD; FULL": of several what is told first. */
    private static void badAheadOfFull() {
        EyeDrink x = new EyeDrink();
        for (int i = 0; i < 64; i++) {
            x.write('E');
        }
        C.due("write(-1) when full", x.write(-1), EyeDrink.BAD);
        C.due("write(256) when full", x.write(256), EyeDrink.BAD);
        C.due("bytes", x.about(9), 64);
    }

    /** "THE TEXT is empty: how long it was." */
    private static void wipedEmptyAndFull() {
        EyeDrink x = new EyeDrink();
        C.due("wipe of nothing", x.wipe(), 0);
        C.due("wipe of nothing again", x.wipe(), 0);
        x.write('E');
        C.due("wipe of one", x.wipe(), 1);
        C.due("bytes", x.about(9), 0);
        C.due("fault", x.fault(), 0);
        Twins.unchangedBy(C, "wipe of nothing", y -> { }, EyeDrink::wipe);
    }

    /** "At first there is nothing." */
    private static void newObjectIsNothing() {
        EyeDrink x = new EyeDrink();
        for (int what = 0; what <= 9; what++) {
            C.due("about(" + what + ")", x.about(what), what == 6 ? 1000 : 0);
        }
        C.due("fault", x.fault(), 0);
        C.due("well", x.well(), EyeDrink.LATE);
        C.due("can(0)", x.can(0), 0);
        C.due("can(1)", x.can(1), 0);
        C.due("unsee", x.unsee(), 0);
        C.due("seed", x.seed(0), 0);
        C.due("again(0)", x.again(0), EyeDrink.LATE);
        C.due("again(1)", x.again(1), EyeDrink.LATE);
        C.due("undo", x.undo(), EyeDrink.LATE);
    }

    /** "its length, if it is only not at its end; NONE: none." */
    private static void everyStartOfAWell() {
        int ends = 0;
        for (int length = 0; length <= FULLEST.length(); length++) {
            boolean whole = length == FULLEST.length() || length > 0 && "TQD".indexOf(FULLEST.charAt(length)) >= 0;
            fault(FULLEST.substring(0, length), whole ? EyeDrink.NONE : length);
            ends += whole ? 1 : 0;
        }
        C.due("parts and E", ends, 13);
    }

    /** "A WELL is a TEXT: E, then PARTS, none or more". */
    private static void noneOrMoreParts() {
        fault("", 0);
        fault("E", EyeDrink.NONE);
        fault("EE", 1);
        fault("ET100E", 5);
        for (int letter = 0; letter < 256; letter++) {
            fault("" + (char) letter, letter == 'E' ? EyeDrink.NONE : 0);
        }
        EyeDrink x = Check.wellOf("E");
        C.due("no part", x.about(0) + x.about(1) + x.about(2), 0);
    }

    /** "THINGS (4 at most), QUESTIONS (4 at most), DEEDS (4 at most)". */
    private static void fourOfAKindAtMost() {
        fault("ET100T100T100T100", EyeDrink.NONE);
        fault("ET100T100T100T100T", 17);
        fault("ET100T100T100T100Q", 18);
        fault("ET100Q0100Q0100Q0100Q0100", EyeDrink.NONE);
        fault("ET100Q0100Q0100Q0100Q0100Q", 25);
        fault("ET100Q0100Q0100Q0100Q0100T", 26);
        fault("ET100Q0100Q0100Q0100Q0100D", 26);
        fault("ET100Q0100D00000D00000D00000D00000", EyeDrink.NONE);
        fault("ET100Q0100D00000D00000D00000D00000D", 34);
        fault("ET100Q0100D00000D00000D00000D00000Q", 35);
        fault("ET100Q0100D00000D00000D00000D00000T", 35);
        // the five are counted also when others stand between them
        fault("ET100T100Q0100T100Q0100T100Q0100T", 32);
    }

    /** At the place behind the start the bytes of the set fit and no other ones. */
    private static void fits(String start, String set, boolean last) {
        for (int letter = 0; letter < 256; letter++) {
            boolean fit = set.indexOf(letter) >= 0;
            int length = start.length();
            fault(start + (char) letter, !fit ? length : last ? EyeDrink.NONE : length + 1);
        }
    }

    /** "Tnwk: n (1 .. 9), w (0 .. 9), k (0 .. 3)". */
    private static void figuresOfAThing() {
        fits("ET", "123456789", false);
        fits("ET1", FIGURES, false);
        fits("ET9", FIGURES, false);
        fits("ET10", "0123", true);
        fits("ET99", "0123", true);
    }

    /** "Qtpah: p (1 .. 9), a (0, 1), h (0 .. 9)". */
    private static void figuresOfAQuestion() {
        fits("ET100Q0", "123456789", false);
        fits("ET100Q01", "01", false);
        fits("ET100Q09", "01", false);
        fits("ET100Q010", FIGURES, true);
        fits("ET100Q091", FIGURES, true);
    }

    /** "Dqavtu: v (0 .. 9), a (0, 1), u (0 .. 9)". */
    private static void figuresOfADeed() {
        fits("ET100Q0100D0", "01", false);
        fits("ET100Q0100D00", FIGURES, false);
        fits("ET100Q0100D01", FIGURES, false);
        fits("ET100Q0100D0000", FIGURES, true);
        fits("ET100Q0100D0190", FIGURES, true);
    }

    /** "THING t (told ahead)", "QUESTION q (told ahead)". */
    private static void onlyWhatIsToldAhead() {
        fault("EQ", 1);
        fault("ED", 1);
        fault("ET100D", 5);
        StringBuilder things = new StringBuilder("E");
        for (int n = 1; n <= 4; n++) {
            things.append("T100");
            fits(things + "Q", FIGURES.substring(0, n), false);
            fits(things + "Q0100D000", FIGURES.substring(0, n), false);
        }
        StringBuilder questions = new StringBuilder("ET100");
        for (int n = 1; n <= 4; n++) {
            questions.append("Q0100");
            fits(questions + "D", FIGURES.substring(0, n), false);
        }
        // a thing of which one has more does not reach further than to itself
        fault("ET900Q1", 6);
        // what is told behind is not told ahead
        fault("ET100Q1100T100", 6);
        fault("ET100Q0100D10000Q0100", 11);
        fault("ET100Q0100D00010T100", 14);
        fault("ET100Q0100T100D00010", EyeDrink.NONE);
    }

    /** "PARTS, numbered as they are told, each kind for itself". */
    private static void numberedEachKindForItself() {
        EyeDrink x = Check.wellOf("ET130Q0211D01402T251Q1306D10513T372Q2407");
        C.due("thing 0", x.thing(0, 0), 1);
        C.due("thing 1", x.thing(1, 0), 2);
        C.due("thing 2", x.thing(2, 0), 3);
        C.due("thing 3", x.thing(3, 0), EyeDrink.UNKNOWN);
        C.due("question 0", x.question(0, 1), 2);
        C.due("question 1", x.question(1, 1), 3);
        C.due("question 2", x.question(2, 1), 4);
        C.due("question 3", x.question(3, 1), EyeDrink.UNKNOWN);
        C.due("deed 0", x.deed(0, 2), 4);
        C.due("deed 1", x.deed(1, 2), 5);
        C.due("deed 2", x.deed(2, 2), EyeDrink.UNKNOWN);
    }

    /** "the place of the first byte by which THE TEXT can be no WELL, whatever came behind it". */
    private static void theFirstFaultCounts() {
        fault("xE", 0);
        fault("ET0T0", 2);
        fault("ET1x0T100", 3);
        fault("ET104Q", 4);
        fault("ET100Q01x", 8);
        EyeDrink x = new EyeDrink();
        Check.tell(x, "ET0");
        for (int i = 3; i < 64; i++) {
            x.write(i % 2 == 0 ? 'T' : 'E');
            C.due("fault with " + (i + 1) + " bytes", x.fault(), 2);
        }
        // well tells late at it, wherever it stands
        C.due("well", x.well(), EyeDrink.LATE);
    }

    /** "(its length set aside)": a text longer than any well has its fault where the longest well ends. */
    private static void lengthIsSetAside() {
        C.due("the longest well", FULLEST.length(), 61);
        fault(FULLEST, EyeDrink.NONE);
        for (int letter = 0; letter < 256; letter++) {
            fault(FULLEST + (char) letter, 61);
        }
        fault(FULLEST + "T1", 61);
        fault(FULLEST + "T10", 61);
        EyeDrink x = new EyeDrink();
        Check.tell(x, FULLEST + "T10");
        C.due("full", x.write('0'), EyeDrink.FULL);
        C.due("fault of 64 bytes", x.fault(), 61);
        C.due("well of 64 bytes", x.well(), EyeDrink.LATE);
    }

    /** "LATE: a FAULT": by nothing, by a wrong byte, by a missing end; the well stays as it was. */
    private static void wellIsLate() {
        String[] faulty = {"", "T", "ET", "ET10", "ET100Q", "ET100Q010", "ET100Q0100D0000", "ET100x", FULLEST + "T"};
        for (String text : faulty) {
            Twins.refused(C, "well of '" + text + "' at nothing", x -> Check.tell(x, text), EyeDrink::well,
                    EyeDrink.LATE);
            Twins.refused(C, "well of '" + text + "'", x -> tellBehindActs(x, text), EyeDrink::well, EyeDrink.LATE);
        }
    }

    private static void tellBehindActs(EyeDrink x, String text) {
        Twins.busy(x);
        Check.tell(x, text);
    }

    /** "100 times THINGS, 10 times QUESTIONS, and DEEDS." */
    private static void wellCounts() {
        String[] texts = {"E", "ET100", "ET100Q0100", "ET100Q0100D00000", "ET100T100T100T100", FULLEST,
            "ET100Q0100Q0100Q0100Q0100", "ET100Q0100D00000D00000D00000D00000", "ET100T100T100Q0100Q0100D00000"};
        int[] want = {0, 100, 110, 111, 400, 444, 140, 114, 321};
        EyeDrink x = new EyeDrink();
        for (int i = 0; i < texts.length; i++) {
            Check.tell(x, texts[i]);
            C.due("well of " + texts[i], x.well(), want[i]);
            C.due("the text stays", x.about(9), texts[i].length());
            C.due("the same anew", x.well(), want[i]);
        }
    }

    /**
     * "When THE WELL is made anew, THE DAY is 0, nothing is KNOWN, DONE, given, WON is 0",
     * "(no ACTS; what was kept is gone; SEEN, THE SEED stay)".
     */
    private static void madeAnew() {
        EyeDrink x = Check.wellOf("ET921T532Q0210Q1105D01901D10811");
        x.drink(0);
        x.act(0);
        x.day();
        x.drink(1);
        x.keep(0);
        x.keep(1);
        x.see(1, false);
        x.seed(Long.MIN_VALUE);
        C.due("well", x.well(), 222);
        C.due("the day", x.about(3), 0);
        C.due("known", x.about(4), 0);
        C.due("done", x.about(5), 0);
        C.due("won", x.about(6), 1000 + 18 + 15);
        C.due("away", x.thing(0, 4), 0);
        C.due("there", x.thing(0, 3), 9);
        C.due("there of the growing one", x.thing(1, 3), 5);
        C.due("acts", x.about(7), 0);
        C.due("undo", x.undo(), EyeDrink.LATE);
        C.due("again(0)", x.again(0), EyeDrink.LATE);
        C.due("again(1)", x.again(1), EyeDrink.LATE);
        C.due("seen", x.about(8), 1);
        C.due("knew(0)", x.knew(0), 2);
        C.due("the seed", x.seed(0), Long.MIN_VALUE);
        C.due("nothing was given: day 0", x.day(), 1);
        C.due("nothing was given: day 1", x.day(), 1);
        anewWithLess();
    }

    /** A well made of less has nothing of the larger one. */
    private static void anewWithLess() {
        EyeDrink x = Check.wellOf(FULLEST);
        Check.tell(x, "E");
        x.well();
        for (int i = 0; i < 4; i++) {
            C.due("thing " + i, x.thing(i, 0), EyeDrink.UNKNOWN);
            C.due("question " + i, x.question(i, 0), EyeDrink.UNKNOWN);
            C.due("deed " + i, x.deed(i, 0), EyeDrink.UNKNOWN);
        }
        C.due("estate", x.about(6), 1000);
        C.due("knew(0)", x.knew(0), 1);
        C.due("day", x.day(), 0);
        C.due("mean(0)", x.mean(0), 10000);
        C.due("worst(0)", x.worst(0), 1000);
        C.due("can", x.can(0) + x.can(1), 0);
        Check.tell(x, "ET100T100Q0110Q1100");
        C.due("well", x.well(), 220);
        C.due("another answer of question 0", x.drink(0), 1);
        C.due("another answer of question 1", x.drink(1), 0);
    }
}
