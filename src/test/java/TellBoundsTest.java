/** Bounds of ESTATE (terms, part 1) and of promises 6 to 9: each figure at its least and at its most. */
public final class TellBoundsTest {
    private static final int[] OFF = {-1, -2, -9, Integer.MIN_VALUE, Integer.MAX_VALUE};
    private static final String FULLEST = "ET100T911T192T993Q0100Q1911Q2109Q3910D00000D11939D20120D31909";
    private static final Check C = new Check();

    public static void main(String[] args) {
        aboutAtItsLeast();
        aboutAtItsMost();
        aboutIsBad();
        thingsAtBothEnds();
        howManyThereAre();
        awayOnlyOfLentOnes();
        thingIsRefused();
        questionsAtBothEnds();
        answerOnlyIfKnown();
        questionIsRefused();
        deedsAtBothEnds();
        deedIsRefused();
        unknownAheadOfBad();
        estateAtBothEnds();
        worthlessByOneFewer();
        onlyWhatIsLeftCounts();
        C.end();
    }

    /** "about": each of its ten figures when there is nothing. */
    private static void aboutAtItsLeast() {
        EyeDrink x = new EyeDrink();
        for (int what = 0; what <= 9; what++) {
            C.due("nothing: about(" + what + ")", x.about(what), what == 6 ? 1000 : 0);
        }
    }

    /** "about": each of its ten figures when all is full. */
    private static void aboutAtItsMost() {
        EyeDrink x = Check.wellOf("ET990T990T990T990Q0111Q1111Q2111Q3111D01900D11910D21920D31930");
        for (int i = 0; i < 4; i++) {
            x.drink(i);
            x.act(i);
        }
        for (int i = 0; i < 7; i++) {
            x.day();
            x.see(3, true);
        }
        while (x.write('E') > 0) {
            C.holds("the text grows to 64", x.about(9) <= 64);
        }
        int[] want = {4, 4, 4, 7, 15, 15, 1000 + 4 * 72 + 36, 14, 6, 64};
        for (int what = 0; what <= 9; what++) {
            C.due("full: about(" + what + ")", x.about(what), want[what]);
        }
    }

    /** "about ... BAD." */
    private static void aboutIsBad() {
        EyeDrink x = Check.wellOf(FULLEST);
        C.due("about(10)", x.about(10), EyeDrink.BAD);
        for (int what : OFF) {
            C.due("about(" + what + ")", x.about(what), EyeDrink.BAD);
        }
    }

    /** "how many were told (what = 0), WORTH (1), KIND (2)": n 1 .. 9, w 0 .. 9, k 0 .. 3. */
    private static void thingsAtBothEnds() {
        EyeDrink x = Check.wellOf(FULLEST);
        int[][] want = {{1, 0, 0, 1, 0}, {9, 1, 1, 9, 0}, {1, 9, 2, 1, 0}, {9, 9, 3, 9, 0}};
        for (int t = 0; t < 4; t++) {
            for (int what = 0; what <= 4; what++) {
                C.due("thing(" + t + ", " + what + ")", x.thing(t, what), want[t][what]);
            }
        }
    }

    /** "how many there are (3)": from none to 9, while what was told stays. */
    private static void howManyThereAre() {
        EyeDrink x = Check.wellOf("ET900T802Q0900");
        x.drink(0);
        C.due("none is left", x.thing(0, 3), 0);
        C.due("nine were told", x.thing(0, 0), 9);
        x.day();
        x.day();
        C.due("nine are there", x.thing(1, 3), 9);
        C.due("eight were told", x.thing(1, 0), 8);
    }

    /** "how many of a LENT one are away (4; 0: it is not LENT)". */
    private static void awayOnlyOfLentOnes() {
        for (int kind = 0; kind <= 3; kind++) {
            EyeDrink x = Check.wellOf("ET90" + kind + "Q0900");
            C.due("none given of kind " + kind, x.thing(0, 4), 0);
            x.drink(0);
            C.due("nine given of kind " + kind, x.thing(0, 4), kind == 1 ? 9 : 0);
            x.day();
            C.due("a day later of kind " + kind, x.thing(0, 4), kind == 1 ? 9 : 0);
            x.day();
            C.due("two days later of kind " + kind, x.thing(0, 4), 0);
        }
    }

    /** "thing ... UNKNOWN; BAD." */
    private static void thingIsRefused() {
        C.knownToTheLast("thing", "E", "T100", (x, thing) -> x.thing(thing, 0), 1);
        EyeDrink x = Check.wellOf(FULLEST);
        C.due("thing(3, 4)", x.thing(3, 4), 0);
        C.due("thing(3, 5)", x.thing(3, 5), EyeDrink.BAD);
        for (int off : OFF) {
            C.due("thing(" + off + ", 0)", x.thing(off, 0), EyeDrink.UNKNOWN);
            C.due("thing(0, " + off + ")", x.thing(0, off), EyeDrink.BAD);
        }
    }

    /** "Of a QUESTION its THING (what = 0), price (1), tenths (2)": t 0 .. 3, p 1 .. 9, h 0 .. 9. */
    private static void questionsAtBothEnds() {
        EyeDrink x = Check.wellOf(FULLEST);
        int[][] want = {{0, 1, 0}, {1, 9, 1}, {2, 1, 9}, {3, 9, 0}};
        for (int q = 0; q < 4; q++) {
            for (int what = 0; what <= 2; what++) {
                C.due("question(" + q + ", " + what + ")", x.question(q, what), want[q][what]);
            }
        }
    }

    /** "its answer, if it is KNOWN (3; NONE)". */
    private static void answerOnlyIfKnown() {
        EyeDrink x = Check.wellOf(FULLEST);
        int[] answer = {0, 1, 0, 1};
        for (int q = 0; q < 4; q++) {
            C.due("not known: " + q, x.question(q, 3), EyeDrink.NONE);
            C.due("drink(" + q + ")", x.drink(q), answer[q]);
            C.due("known: " + q, x.question(q, 3), answer[q]);
        }
        x.undo();
        C.due("undone: not known", x.question(3, 3), EyeDrink.NONE);
        C.due("the one ahead of it is", x.question(2, 3), 0);
    }

    /** "question ... UNKNOWN; BAD." */
    private static void questionIsRefused() {
        C.knownToTheLast("question", "ET100", "Q0110", (x, question) -> x.question(question, 1), 1);
        EyeDrink x = Check.wellOf(FULLEST);
        C.due("question(3, 3)", x.question(3, 3), EyeDrink.NONE);
        C.due("question(3, 4)", x.question(3, 4), EyeDrink.BAD);
        for (int off : OFF) {
            C.due("question(" + off + ", 0)", x.question(off, 0), EyeDrink.UNKNOWN);
            C.due("question(0, " + off + ")", x.question(0, off), EyeDrink.BAD);
        }
    }

    /** "Of a DEED ..": q 0 .. 3, a 0 .. 1, v 0 .. 9, t 0 .. 3, u 0 .. 9, "1 if it is DONE (5)". */
    private static void deedsAtBothEnds() {
        EyeDrink x = Check.wellOf(FULLEST);
        int[][] want = {{0, 0, 0, 0, 0}, {1, 1, 9, 3, 9}, {2, 0, 1, 2, 0}, {3, 1, 9, 0, 9}};
        for (int d = 0; d < 4; d++) {
            for (int what = 0; what <= 4; what++) {
                C.due("deed(" + d + ", " + what + ")", x.deed(d, what), want[d][what]);
            }
            C.due("not done: " + d, x.deed(d, 5), 0);
            boolean can = d != 3;
            C.due("done or not: " + d, x.act(d) > 0 ? 1 : 0, can ? 1 : 0);
            C.due("1 if done: " + d, x.deed(d, 5), can ? 1 : 0);
        }
        x.undo();
        C.due("undone", x.deed(2, 5), 0);
        C.due("the one ahead of it is done", x.deed(1, 5), 1);
    }

    /** "deed ... UNKNOWN; BAD." */
    private static void deedIsRefused() {
        C.knownToTheLast("deed", "ET100Q0110", "D00100", (x, deed) -> x.deed(deed, 2), 1);
        EyeDrink x = Check.wellOf(FULLEST);
        C.due("deed(3, 5)", x.deed(3, 5), 0);
        C.due("deed(3, 6)", x.deed(3, 6), EyeDrink.BAD);
        for (int off : OFF) {
            C.due("deed(" + off + ", 0)", x.deed(off, 0), EyeDrink.UNKNOWN);
            C.due("deed(0, " + off + ")", x.deed(0, off), EyeDrink.BAD);
        }
    }

    /** "Of several what is told first": UNKNOWN is told ahead of BAD. */
    private static void unknownAheadOfBad() {
        EyeDrink x = Check.wellOf("ET100Q0110D00100");
        for (int off : new int[] {-1, 1, 4}) {
            C.due("thing(" + off + ", 5)", x.thing(off, 5), EyeDrink.UNKNOWN);
            C.due("thing(" + off + ", -1)", x.thing(off, -1), EyeDrink.UNKNOWN);
            C.due("question(" + off + ", 4)", x.question(off, 4), EyeDrink.UNKNOWN);
            C.due("question(" + off + ", -1)", x.question(off, -1), EyeDrink.UNKNOWN);
            C.due("deed(" + off + ", 6)", x.deed(off, 6), EyeDrink.UNKNOWN);
            C.due("deed(" + off + ", -1)", x.deed(off, -1), EyeDrink.UNKNOWN);
        }
    }

    /** "ESTATE: 1000, WON, and WORTH of all THINGS that are left": the most and the least that there can be. */
    private static void estateAtBothEnds() {
        EyeDrink most = Check.wellOf("ET990T990T990T990Q0110D01900D01900D01900D01900");
        EyeDrink least = Check.wellOf("ET100Q0110D00900D00900D00900D00900");
        C.due("most, nothing won", most.about(6), 1324);
        C.due("least, nothing lost", least.about(6), 1000);
        for (int d = 0; d < 4; d++) {
            C.due("won " + d, most.act(d), 1324 + 9 * (d + 1));
            C.due("lost " + d, least.act(d), 1000 - 9 * (d + 1));
        }
        C.due("most", most.about(6), 1360);
        C.due("least", least.about(6), 964);
        C.due("keep tells it", least.keep(0), 964);
    }

    /** "of a WORTHLESS THING it is nothing, if there are fewer than were told." */
    private static void worthlessByOneFewer() {
        for (int n = 1; n <= 9; n++) {
            EyeDrink x = Check.wellOf("ET" + n + "93Q0100D00000");
            C.due("all of " + n, x.about(6), 1000 + 9 * n);
            C.due("nothing was taken", x.act(0), 1000 + 9 * n);
            x.drink(0);
            C.due("one fewer than " + n, x.about(6), 1000);
            x.day();
            C.due("a day brings none", x.about(6), 1000);
            x.undo();
            x.undo();
            C.due("all again", x.about(6), 1000 + 9 * n);
        }
        EyeDrink y = Check.wellOf("ET293T290Q0100Q1100");
        y.drink(1);
        C.due("fewer of another one", y.about(6), 1000 + 18 + 9);
    }

    /** "THINGS that are left": what is away does not count, what has grown does. */
    private static void onlyWhatIsLeftCounts() {
        EyeDrink x = Check.wellOf("ET291T192Q0200");
        x.drink(0);
        C.due("away", x.about(6), 1000 + 9);
        x.day();
        C.due("away, and one has grown", x.about(6), 1000 + 18);
        x.day();
        C.due("back, and two have grown", x.about(6), 1000 + 18 + 27);
    }
}
