/** Bounds of SLOTS (terms, part 3) and of promises 28 and 29, sentence by sentence. */
public final class SlotsBoundsTest {
    private static final int[] OFF = {-1, 2, 3, 31, 32, 33, -32, Integer.MIN_VALUE, Integer.MAX_VALUE};
    private static final Check C = new Check();

    public static void main(String[] args) {
        keepIsRefused();
        againIsRefused();
        unknownAheadOfLate();
        keptOfNothing();
        allThatIsKept();
        whatIsNotKept();
        keepingChangesNothingElse();
        noActsWhenOneGoesOn();
        bothSlots();
        keptAnew();
        goneWithTheWell();
        C.end();
    }

    /** "SLOTS 0 .. 1", "They are kept: ESTATE. UNKNOWN." */
    private static void keepIsRefused() {
        EyeDrink x = Check.wellOf("ET310");
        for (int slot : OFF) {
            C.due("keep(" + slot + ")", x.keep(slot), EyeDrink.UNKNOWN);
            C.due("nothing is kept in 0", x.again(0), EyeDrink.LATE);
            C.due("nothing is kept in 1", x.again(1), EyeDrink.LATE);
        }
        C.due("keep(0)", x.keep(0), 1003);
        C.due("keep(1)", x.keep(1), 1003);
    }

    /** "They are as they were kept: ESTATE. UNKNOWN; LATE: none were kept." */
    private static void againIsRefused() {
        for (int slot = 0; slot <= 1; slot++) {
            EyeDrink x = Check.wellOf("ET310");
            x.day();
            C.due("none kept in " + slot, x.again(slot), EyeDrink.LATE);
            x.keep(1 - slot);
            C.due("only the other one is kept", x.again(slot), EyeDrink.LATE);
            C.due("the acts stay", x.about(7), 1);
            C.due("the other one", x.again(1 - slot), 1003);
        }
    }

    /** Of several what is told first: no such SLOT, though none were kept, or both. */
    private static void unknownAheadOfLate() {
        EyeDrink x = Check.wellOf("ET310");
        for (int slot : OFF) {
            C.due("again(" + slot + "), none kept", x.again(slot), EyeDrink.UNKNOWN);
        }
        x.keep(0);
        x.keep(1);
        x.day();
        for (int slot : OFF) {
            C.due("again(" + slot + "), both kept", x.again(slot), EyeDrink.UNKNOWN);
        }
        C.due("the acts stay", x.about(7), 1);
    }

    /** At nothing there is THE DAY to be kept. */
    private static void keptOfNothing() {
        EyeDrink x = new EyeDrink();
        C.due("keep(1)", x.keep(1), 1000);
        x.day();
        C.due("again(1)", x.again(1), 1000);
        C.due("the day", x.about(3), 0);
        C.due("again(0)", x.again(0), EyeDrink.LATE);
    }

    private static void busy(EyeDrink x) {
        Check.tell(x, "ET921T532Q0210Q0110D01901D10811");
        x.well();
        x.drink(0);
        x.day();
        x.drink(1);
        x.act(0);
    }

    /** "keep THINGS, what is given, KNOWN, DONE, THE DAY, WON". */
    private static void allThatIsKept() {
        EyeDrink x = new EyeDrink();
        busy(x);
        int estate = 1000 + 9 + 2 * 5 + 3 * 6;
        C.due("keep(0)", x.keep(0), estate);
        x.act(1);
        x.day();
        x.day();
        x.day();
        C.due("again(0)", x.again(0), estate);
        C.due("the day", x.about(3), 1);
        C.due("known", x.about(4), 3);
        C.due("done", x.about(5), 1);
        C.due("estate", x.about(6), estate);
        C.due("there", x.thing(0, 3), 5);
        C.due("there of the growing one", x.thing(1, 3), 6);
        C.due("away", x.thing(0, 4), 4);
        C.due("given on day 0, and one grows", x.day(), 2 + 1);
        C.due("given on day 1, and one grows", x.day(), 2 + 1);
        C.due("nothing more, and one grows", x.day(), 1);
    }

    /** THE TEXT, SEEN and THE SEED are not among what is kept: they stay as they are. */
    private static void whatIsNotKept() {
        EyeDrink x = new EyeDrink();
        busy(x);
        x.seed(3);
        x.keep(1);
        x.see(0, true);
        x.seed(4);
        Check.tell(x, "ET1");
        x.again(1);
        C.due("seen", x.about(8), 1);
        C.due("the seed", x.seed(0), 4);
        C.due("bytes", x.about(9), 3);
        C.due("fault", x.fault(), 3);
    }

    /** Behind keep all is as it was, and the acts can still be undone. */
    private static void keepingChangesNothingElse() {
        EyeDrink x = new EyeDrink();
        busy(x);
        x.keep(0);
        C.due("acts", x.about(7), 4);
        C.due("undo", x.undo(), 3);
        C.due("what is kept does not follow", x.again(0), 1037);
        C.due("done", x.about(5), 1);
        // to keep once more what is kept already is no change at all
        Twins.unchangedBy(C, "keep(0) again", y -> {
            busy(y);
            y.keep(0);
        }, y -> y.keep(0));
    }

    /** "(no ACTS when one goes on)". */
    private static void noActsWhenOneGoesOn() {
        EyeDrink x = new EyeDrink();
        busy(x);
        x.keep(0);
        C.due("acts", x.about(7), 4);
        x.again(0);
        C.due("no acts", x.about(7), 0);
        C.due("undo", x.undo(), EyeDrink.LATE);
        x.act(1);
        C.due("one act", x.about(7), 1);
        C.due("undo", x.undo(), 0);
        C.due("as it was kept", x.about(6), 1037);
        C.due("undo", x.undo(), EyeDrink.LATE);
        for (int i = 0; i < 15; i++) {
            x.day();
        }
        C.due("fourteen acts", x.about(7), 14);
        x.again(0);
        C.due("no acts", x.about(7), 0);
    }

    /** Each SLOT keeps for itself. */
    private static void bothSlots() {
        EyeDrink x = Check.wellOf("ET112");
        x.keep(0);
        x.day();
        x.keep(1);
        x.day();
        C.due("again(0)", x.again(0), 1001);
        C.due("the day", x.about(3), 0);
        C.due("again(1)", x.again(1), 1002);
        C.due("the day", x.about(3), 1);
        C.due("again(0) once more", x.again(0), 1001);
        x.day();
        x.day();
        x.day();
        C.due("again(0), as it was kept", x.again(0), 1001);
    }

    /** What is kept anew takes the place of what was kept there. */
    private static void keptAnew() {
        EyeDrink x = Check.wellOf("ET112");
        x.keep(0);
        x.keep(1);
        x.day();
        C.due("keep(0) anew", x.keep(0), 1002);
        x.day();
        C.due("again(0)", x.again(0), 1002);
        C.due("again(1)", x.again(1), 1001);
    }

    /** "what was kept is gone" with a well; with a FAULT it stays. */
    private static void goneWithTheWell() {
        EyeDrink x = Check.wellOf("ET112");
        x.keep(0);
        x.keep(1);
        x.write('T');
        C.due("well with a fault", x.well(), EyeDrink.LATE);
        C.due("again(0)", x.again(0), 1001);
        C.due("again(1)", x.again(1), 1001);
        Check.tell(x, "ET112");
        x.well();
        C.due("again(0)", x.again(0), EyeDrink.LATE);
        C.due("again(1)", x.again(1), EyeDrink.LATE);
        C.due("keep(1)", x.keep(1), 1001);
        C.due("again(0)", x.again(0), EyeDrink.LATE);
        C.due("again(1)", x.again(1), 1001);
    }
}
