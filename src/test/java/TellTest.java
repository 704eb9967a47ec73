/** Promises 6 to 9: about, thing, question, deed. */
public final class TellTest {
    private static final Check C = new Check();

    public static void main(String[] args) {
        EyeDrink x = Check.wellOf("ET340T521T712T993Q0217Q1409D01810D11903");
        rows(x);
        refusals(x);
        afterActs(x);
        estates();
        C.end();
    }

    private static void row(EyeDrink x, String kind, int index, int... want) {
        for (int what = 0; what < want.length; what++) {
            int got = kind.equals("thing") ? x.thing(index, what)
                    : kind.equals("question") ? x.question(index, what)
                    : kind.equals("deed") ? x.deed(index, what) : x.about(what);
            C.due(kind + "(" + index + ", " + what + ")", got, want[what]);
        }
    }

    private static void rows(EyeDrink x) {
        row(x, "about", 0, 4, 2, 2, 0, 0, 0, 1000 + 12 + 10 + 7 + 81, 0, 0, 39);
        row(x, "thing", 0, 3, 4, 0, 3, 0);
        row(x, "thing", 1, 5, 2, 1, 5, 0);
        row(x, "thing", 2, 7, 1, 2, 7, 0);
        row(x, "thing", 3, 9, 9, 3, 9, 0);
        row(x, "question", 0, 0, 2, 7, EyeDrink.NONE);
        row(x, "question", 1, 1, 4, 9, EyeDrink.NONE);
        row(x, "deed", 0, 0, 1, 8, 1, 0, 0);
        row(x, "deed", 1, 1, 1, 9, 0, 3, 0);
    }

    private static void refusals(EyeDrink x) {
        C.due("about(-1)", x.about(-1), EyeDrink.BAD);
        C.due("about(10)", x.about(10), EyeDrink.BAD);
        int[] off = {-1, 4, Integer.MIN_VALUE, Integer.MAX_VALUE};
        for (int index : off) {
            C.due("thing " + index, x.thing(index, 0), EyeDrink.UNKNOWN);
            C.due("thing " + index + ", bad", x.thing(index, 9), EyeDrink.UNKNOWN);
            C.due("question " + index, x.question(index, -1), EyeDrink.UNKNOWN);
            C.due("deed " + index, x.deed(index, -1), EyeDrink.UNKNOWN);
        }
        C.due("question 2", x.question(2, 0), EyeDrink.UNKNOWN);
        C.due("deed 2", x.deed(2, 0), EyeDrink.UNKNOWN);
        C.due("thing, 5", x.thing(3, 5), EyeDrink.BAD);
        C.due("thing, -1", x.thing(3, -1), EyeDrink.BAD);
        C.due("question, 4", x.question(1, 4), EyeDrink.BAD);
        C.due("question, -1", x.question(1, -1), EyeDrink.BAD);
        C.due("deed, 6", x.deed(1, 6), EyeDrink.BAD);
        C.due("deed, -1", x.deed(1, -1), EyeDrink.BAD);
    }

    private static void afterActs(EyeDrink x) {
        x.drink(1);
        x.day();
        x.act(0);
        x.see(0, false);
        x.see(1, true);
        // deed 0 hangs on question 0, whose answer is 1, and wants 1; four of the lent ones are away
        row(x, "about", 0, 4, 2, 2, 1, 2, 1, 1000 + 8 + 12 + 2 + 8 + 81, 3, 2, 39);
        row(x, "question", 0, 0, 2, 7, EyeDrink.NONE);
        row(x, "question", 1, 1, 4, 9, 0);
        row(x, "deed", 0, 0, 1, 8, 1, 0, 1);
        row(x, "thing", 1, 5, 2, 1, 1, 4);
        row(x, "thing", 2, 7, 1, 2, 8, 0);
        x.act(1);
        x.drink(0);
        C.due("three of them were taken", x.thing(0, 3), 0);
        C.due("nothing is away of a plain one", x.thing(0, 4), 0);
        C.due("question 0 is not known", x.question(0, 3), EyeDrink.NONE);
        C.due("a lost deed", x.about(6), 1000 + 8 - 9 + 2 + 8 + 81);
    }

    private static void estates() {
        EyeDrink x = Check.wellOf("ET393Q0100D00001");
        C.due("a worthless one, whole", x.about(6), 1027);
        x.drink(0);
        C.due("a worthless one, fewer", x.about(6), 1000);
        x.undo();
        C.due("a worthless one, whole again", x.about(6), 1027);
        x.act(0);
        C.due("a worthless one, fewer by a deed", x.about(6), 1000);
        EyeDrink y = Check.wellOf("ET991Q0900");
        y.drink(0);
        C.due("a lent one that is away is not left", y.about(6), 1000);
        EyeDrink z = Check.wellOf("ET192");
        z.day();
        C.due("a grown one counts", z.about(6), 1018);
    }
}
