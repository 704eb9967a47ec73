/** Promises 10 to 13: drink, act, day, undo. */
public final class ActsTest {
    private static final Check C = new Check();

    public static void main(String[] args) {
        drinking();
        doing();
        lentDays();
        growingDays();
        undoing();
        rowOfActs();
        C.end();
    }

    private static void drinking() {
        EyeDrink x = Check.wellOf("ET310Q0210Q0209Q0119");
        C.due("drink(-1)", x.drink(-1), EyeDrink.UNKNOWN);
        C.due("drink(3)", x.drink(3), EyeDrink.UNKNOWN);
        C.due("no act yet", x.about(7), 0);
        C.due("drink(0)", x.drink(0), 1);
        C.due("one is left", x.thing(0, 3), 1);
        C.due("drink(0) again", x.drink(0), EyeDrink.LATE);
        C.due("drink(1)", x.drink(1), EyeDrink.FULL);
        C.due("refused ones are no acts", x.about(7), 1);
        C.due("drink(2): just enough", x.drink(2), 1);
        C.due("known", x.about(4), 5);
        C.due("nothing is left", x.thing(0, 3), 0);
        C.due("late ahead of full", x.drink(0), EyeDrink.LATE);
        EyeDrink y = new EyeDrink();
        C.due("drink(0) at nothing", y.drink(0), EyeDrink.UNKNOWN);
        C.due("act(0) at nothing", y.act(0), EyeDrink.UNKNOWN);
    }

    private static void doing() {
        EyeDrink x = Check.wellOf("ET310Q0114D01502D00702D01900");
        C.due("act(-1)", x.act(-1), EyeDrink.UNKNOWN);
        C.due("act(3)", x.act(3), EyeDrink.UNKNOWN);
        C.due("act(0), not known, wins", x.act(0), 1000 + 5 + 1);
        C.due("act(0) again", x.act(0), EyeDrink.LATE);
        C.due("act(1)", x.act(1), EyeDrink.FULL);
        x.drink(0);
        C.due("act(2) takes nothing of nothing", x.act(2), 1000 + 5 + 9);
        C.due("done", x.about(5), 5);
        C.due("acts", x.about(7), 3);
        EyeDrink y = Check.wellOf("ET310Q0114D00702");
        C.due("act(0) loses", y.act(0), 1000 - 7 + 1);
        C.due("nothing is known by it", y.about(4), 0);
    }

    private static void lentDays() {
        EyeDrink x = Check.wellOf("ET911Q0310Q0210D00001");
        x.drink(0);
        C.due("day 0 ends", x.day(), 0);
        x.drink(1);
        C.due("away", x.thing(0, 4), 5);
        C.due("day 1 ends", x.day(), 3);
        C.due("away", x.thing(0, 4), 2);
        C.due("there", x.thing(0, 3), 7);
        x.act(0);
        C.due("away", x.thing(0, 4), 3);
        C.due("day 2 ends", x.day(), 2);
        C.due("day 3 ends", x.day(), 1);
        C.due("day 4 ends", x.day(), 0);
        C.due("all there", x.thing(0, 3), 9);
        C.due("the day", x.about(3), 5);
    }

    private static void growingDays() {
        EyeDrink x = Check.wellOf("ET802T412T511T310Q1210Q2510Q3310");
        C.due("two grow", x.day(), 2);
        C.due("nine at most", x.thing(0, 3), 9);
        C.due("one grows", x.day(), 1);
        C.due("still nine", x.thing(0, 3), 9);
        x.drink(0);
        C.due("given of a growing one", x.thing(1, 3), 4);
        C.due("it is not lent", x.thing(1, 4), 0);
        x.drink(1);
        x.drink(2);
        C.due("one grows, none is back", x.day(), 1);
        C.due("one grows, five are back", x.day(), 6);
        C.due("one grows", x.day(), 1);
        C.due("a plain one stays away", x.thing(3, 3), 0);
        C.due("the growing one", x.thing(1, 3), 7);
    }

    private static void undoing() {
        EyeDrink x = Check.wellOf("ET921T522Q0410D01900Q1100D10301");
        x.drink(0);
        x.day();
        x.act(0);
        x.drink(1);
        x.day();
        C.due("four came back, one had grown, none was lost", x.about(6), 1000 + 9 + 18 + 12);
        C.due("undo the day", x.undo(), 4);
        C.due("the day", x.about(3), 1);
        C.due("away again", x.thing(0, 4), 4);
        C.due("there", x.thing(0, 3), 5);
        C.due("undo the drink", x.undo(), 3);
        C.due("not known", x.question(1, 3), EyeDrink.NONE);
        C.due("price is back", x.thing(1, 3), 6);
        C.due("undo the deed", x.undo(), 2);
        C.due("not done", x.deed(0, 5), 0);
        C.due("not won", x.about(6), 1000 + 10 + 12);
        C.due("another act instead", x.act(1), 1000 + 3 + 10 + 10);
        C.due("acts", x.about(7), 3);
        x.undo();
        C.due("day 1 ends", x.day(), 5);
        x.undo();
        C.due("undo", x.undo(), 1);
        C.due("given today again, so not back at the next day", x.day(), 1);
        x.undo();
        C.due("undo", x.undo(), 0);
        C.due("undo", x.undo(), EyeDrink.LATE);
        C.due("all as at first", x.about(6), 1028);
        C.due("none is away", x.thing(0, 4), 0);
    }

    private static void rowOfActs() {
        EyeDrink x = new EyeDrink();
        for (int i = 1; i <= 20; i++) {
            C.due("a day without things", x.day(), 0);
            C.due("acts", x.about(7), Math.min(i, 14));
        }
        C.due("undo", x.undo(), 13);
        x.day();
        x.day();
        C.due("full again", x.about(7), 14);
        for (int i = 13; i >= 0; i--) {
            C.due("undo", x.undo(), i);
            C.due("the day", x.about(3), 7 + i);
        }
        C.due("the first ones are forgotten", x.undo(), EyeDrink.LATE);
    }
}
