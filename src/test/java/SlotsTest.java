/** Promises 28 and 29: keep, again. */
public final class SlotsTest {
    private static final Check C = new Check();

    public static void main(String[] args) {
        refusals();
        goingOn();
        givenToday();
        keptOfNothing();
        C.end();
    }

    private static void refusals() {
        EyeDrink x = Check.wellOf("ET310");
        int[] off = {-1, 2, 32, Integer.MIN_VALUE, Integer.MAX_VALUE};
        for (int slot : off) {
            C.due("keep(" + slot + ")", x.keep(slot), EyeDrink.UNKNOWN);
            C.due("again(" + slot + ")", x.again(slot), EyeDrink.UNKNOWN);
        }
        C.due("again(0)", x.again(0), EyeDrink.LATE);
        C.due("keep(0)", x.keep(0), 1003);
        C.due("again(1)", x.again(1), EyeDrink.LATE);
        x.day();
        C.due("again(1) refused: acts stay", x.again(1) + x.about(7), EyeDrink.LATE + 1);
    }

    private static void goingOn() {
        EyeDrink x = Check.wellOf("ET911T522Q0410Q1210D01900D10310");
        x.drink(0);
        x.day();
        x.act(0);
        C.due("keep(0)", x.keep(0), 1000 + 9 + 5 + 12);
        C.due("keeping leaves the acts", x.about(7), 3);
        x.drink(1);
        x.act(1);
        x.day();
        C.due("keep(1)", x.keep(1), 1000 + 9 - 3 + 9 + 10);
        C.due("again(0)", x.again(0), 1026);
        C.due("the day", x.about(3), 1);
        C.due("known", x.about(4), 1);
        C.due("done", x.about(5), 1);
        C.due("away", x.thing(0, 4), 4);
        C.due("no acts", x.about(7), 0);
        C.due("undo", x.undo(), EyeDrink.LATE);
        C.due("day", x.day(), 5);
        C.due("undo", x.undo(), 0);
        C.due("again(1)", x.again(1), 1025);
        C.due("the day", x.about(3), 2);
        C.due("known", x.about(4), 3);
        C.due("done", x.about(5), 3);
        x.drink(0);
        x.day();
        C.due("again(1), though one went on", x.again(1), 1025);
        C.due("keep(1) anew", x.keep(1), 1025);
        C.due("again(0) once more", x.again(0), 1026);
    }

    /** What was given on the day itself is kept as such, and so it is when an act is undone. */
    private static void givenToday() {
        EyeDrink x = Check.wellOf("ET911Q0310Q0210");
        x.drink(0);
        x.keep(0);
        x.day();
        x.day();
        x.again(0);
        C.due("away", x.thing(0, 4), 3);
        C.due("not back yet", x.day(), 0);
        C.due("back", x.day(), 3);
        x.again(0);
        x.drink(1);
        x.undo();
        C.due("away", x.thing(0, 4), 3);
        x.day();
        x.undo();
        C.due("not back yet", x.day(), 0);
        C.due("back", x.day(), 3);
    }

    private static void keptOfNothing() {
        EyeDrink x = new EyeDrink();
        x.day();
        C.due("keep(0)", x.keep(0), 1000);
        x.day();
        C.due("again(0)", x.again(0), 1000);
        C.due("the day", x.about(3), 1);
        Check.tell(x, "E");
        C.due("well", x.well(), 0);
        C.due("again(0)", x.again(0), EyeDrink.LATE);
    }
}
