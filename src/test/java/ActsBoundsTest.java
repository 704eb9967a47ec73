/** Bounds of DRUNK, DONE, A DAY and ACTS (terms, part 1) and of promises 10 to 13, sentence by sentence. */
public final class ActsBoundsTest {
    private static final int[] OFF = {-1, -2, 4, 5, 32, Integer.MIN_VALUE, Integer.MAX_VALUE};
    private static final Check C = new Check();

    public static void main(String[] args) {
        enoughToDrink();
        drinkIsRefused();
        drinkLateAheadOfFull();
        enoughToDo();
        wonByItsAnswer();
        actIsRefused();
        actLateAheadOfFull();
        dayOfNothing();
        lentForThisDayAndTheNext();
        lentOnSeveralDays();
        growingToNine();
        plainAndWorthlessStay();
        daysAreCounted();
        undoIsLate();
        undoAtNine();
        undoOfEachAct();
        fourteenActs();
        theFirstIsForgotten();
        refusedOnesAreNoActs();
        C.end();
    }

    /** "of whose THING there is enough: its price is given": all prices of all numbers. */
    private static void enoughToDrink() {
        for (int n = 1; n <= 9; n++) {
            for (int p = 1; p <= 9; p++) {
                EyeDrink x = Check.wellOf("ET" + n + "00Q0" + p + "10");
                C.due("price " + p + " of " + n, x.drink(0), p <= n ? 1 : EyeDrink.FULL);
                C.due("left behind price " + p + " of " + n, x.thing(0, 3), p <= n ? n - p : n);
                C.due("known behind price " + p + " of " + n, x.about(4), p <= n ? 1 : 0);
            }
        }
    }

    /** "DRUNK: its answer. UNKNOWN; LATE: it is KNOWN; FULL: there is not enough." */
    private static void drinkIsRefused() {
        C.knownToTheLast("drink", "ET900", "Q0110", EyeDrink::drink, 1);
        EyeDrink y = Check.wellOf("ET910Q0110Q0100Q0110Q0100");
        for (int off : OFF) {
            C.due("drink(" + off + ")", y.drink(off), EyeDrink.UNKNOWN);
        }
        for (int q = 0; q < 4; q++) {
            C.due("drink(" + q + ")", y.drink(q), 1 - q % 2);
            C.due("drink(" + q + ") again", y.drink(q), EyeDrink.LATE);
        }
        C.due("each was paid once", y.thing(0, 3), 5);
    }

    /** "Of several what is told first": a KNOWN one of which there is not enough is LATE. */
    private static void drinkLateAheadOfFull() {
        EyeDrink x = Check.wellOf("ET100Q0110Q0110");
        x.drink(0);
        C.due("known, none left", x.drink(0), EyeDrink.LATE);
        C.due("not known, none left", x.drink(1), EyeDrink.FULL);
        C.due("no such one, none left", x.drink(2), EyeDrink.UNKNOWN);
    }

    /** "of whose THING there is enough: what it takes is given": all figures of all numbers, nothing of none too. */
    private static void enoughToDo() {
        for (int n = 0; n <= 9; n++) {
            for (int u = 0; u <= 9; u++) {
                EyeDrink x = Check.wellOf("ET" + Math.max(1, n) + "00Q0110D01300D0170" + u);
                if (n == 0) {
                    x.drink(0);
                }
                C.due("taking " + u + " of " + n, x.act(1), u <= n ? 1007 : EyeDrink.FULL);
                C.due("left behind taking " + u + " of " + n, x.thing(0, 3), u <= n ? n - u : n);
                C.due("done behind taking " + u + " of " + n, x.about(5), u <= n ? 2 : 0);
            }
        }
    }

    /** "WON is more by v, or less by v, by its answer (KNOWN or not)": v 0 .. 9. */
    private static void wonByItsAnswer() {
        for (int v = 0; v <= 9; v++) {
            for (int answer = 0; answer <= 1; answer++) {
                String text = "ET200Q01" + answer + "5D00" + v + "00D01" + v + "00";
                EyeDrink blind = Check.wellOf(text);
                EyeDrink known = Check.wellOf(text);
                known.drink(0);
                int won = answer == 0 ? v : -v;
                C.due(text + ", blind", blind.act(0), 1000 + won);
                C.due(text + ", known", known.act(0), 1000 + won);
                C.due(text + ", blind, both", blind.act(1), 1000);
                C.due(text + ", known, both", known.act(1), 1000);
                C.due(text + ": nothing gets known by a deed", blind.about(4), 0);
            }
        }
    }

    /** "DONE: ESTATE then. UNKNOWN; LATE: it is DONE; FULL: there is not enough." */
    private static void actIsRefused() {
        C.knownToTheLast("act", "ET900Q0110", "D01100", EyeDrink::act, 1001);
        EyeDrink y = Check.wellOf("ET900Q0110D01101D01101D01101D01101");
        for (int off : OFF) {
            C.due("act(" + off + ")", y.act(off), EyeDrink.UNKNOWN);
        }
        for (int d = 0; d < 4; d++) {
            C.due("act(" + d + ")", y.act(d), 1001 + d);
            C.due("act(" + d + ") again", y.act(d), EyeDrink.LATE);
        }
        C.due("each took one", y.thing(0, 3), 5);
        C.due("each won once", y.about(6), 1004);
    }

    /** "Of several what is told first": a DONE one for which there is not enough is LATE. */
    private static void actLateAheadOfFull() {
        EyeDrink x = Check.wellOf("ET100Q0110D01901D01901");
        x.act(0);
        C.due("done, none left", x.act(0), EyeDrink.LATE);
        C.due("not done, none left", x.act(1), EyeDrink.FULL);
        C.due("no such one, none left", x.act(2), EyeDrink.UNKNOWN);
    }

    /** "A DAY: how many THINGS come": none, where there are none. */
    private static void dayOfNothing() {
        EyeDrink x = new EyeDrink();
        C.due("day at nothing", x.day(), 0);
        C.due("the day", x.about(3), 1);
        C.due("acts", x.about(7), 1);
        EyeDrink y = Check.wellOf("ET521T540T543");
        C.due("day with nothing given", y.day(), 0);
        C.due("estate", y.about(6), 1000 + 10 + 20 + 20);
    }

    /** "a given one is away for this DAY and the next one: it comes back as the next one ends". */
    private static void lentForThisDayAndTheNext() {
        for (int p = 1; p <= 9; p++) {
            EyeDrink x = Check.wellOf("ET901Q0" + p + "10");
            x.drink(0);
            C.due("this day", x.thing(0, 4), p);
            C.due("this day ends", x.day(), 0);
            C.due("the next day", x.thing(0, 4), p);
            C.due("there", x.thing(0, 3), 9 - p);
            C.due("the next day ends", x.day(), p);
            C.due("all there, nine at most", x.thing(0, 3), 9);
            C.due("none away", x.thing(0, 4), 0);
            C.due("once only", x.day(), 0);
        }
    }

    /** "comes back what was given of it on the DAY before": by questions and by deeds, on days one behind the other. */
    private static void lentOnSeveralDays() {
        EyeDrink x = Check.wellOf("ET901T901Q0110Q0210Q1310D01002D01001D01014");
        x.drink(0);
        x.act(0);
        C.due("day 0", x.day(), 0);
        x.drink(1);
        x.drink(2);
        C.due("away of both days", x.thing(0, 4), 5);
        C.due("day 1: what was given on day 0", x.day(), 3);
        x.act(1);
        x.act(2);
        C.due("away", x.thing(0, 4), 3);
        C.due("away of the other", x.thing(1, 4), 7);
        C.due("day 2: what was given on day 1, of both", x.day(), 5);
        C.due("away", x.thing(0, 4), 1);
        C.due("away of the other", x.thing(1, 4), 4);
        C.due("day 3: what was given on day 2, of both", x.day(), 5);
        C.due("day 4", x.day(), 0);
        C.due("all there", x.thing(0, 3) + x.thing(1, 3), 18);
    }

    /** "of each GROWING THING there is one more. (9 of each at most.)" */
    private static void growingToNine() {
        for (int n = 1; n <= 9; n++) {
            EyeDrink x = Check.wellOf("ET" + n + "12Q0110");
            for (int day = 1; day <= 10; day++) {
                C.due("day " + day + " of " + n, x.day(), n + day <= 9 ? 1 : 0);
                C.due("there", x.thing(0, 3), Math.min(9, n + day));
            }
            x.drink(0);
            C.due("one was given of nine", x.thing(0, 3), 8);
            C.due("it grows again", x.day(), 1);
            C.due("to nine", x.day(), 0);
        }
        EyeDrink y = Check.wellOf("ET102T802T902T702Q0110");
        y.drink(0);
        C.due("from none, from eight, not from nine, from seven", y.day(), 3);
        C.due("one is there again", y.thing(0, 3), 1);
        C.due("only two", y.day(), 2);
        C.due("only one", y.day(), 1);
    }

    /** Of PLAIN and WORTHLESS ones nothing comes. */
    private static void plainAndWorthlessStay() {
        EyeDrink x = Check.wellOf("ET910T913Q0910Q1910");
        x.drink(0);
        x.drink(1);
        for (int day = 1; day <= 4; day++) {
            C.due("day", x.day(), 0);
            C.due("none there", x.thing(0, 3) + x.thing(1, 3), 0);
        }
    }

    /** "THE DAY is one more": also on the last of an object's 512 calls. */
    private static void daysAreCounted() {
        EyeDrink x = new EyeDrink();
        for (int i = 1; i <= 511; i++) {
            x.day();
        }
        C.due("the day by call 512", x.about(3), 511);
    }

    /** "how many are left. LATE: there is none." */
    private static void undoIsLate() {
        EyeDrink x = new EyeDrink();
        C.due("at nothing", x.undo(), EyeDrink.LATE);
        x.day();
        C.due("one", x.undo(), 0);
        C.due("none left", x.undo(), EyeDrink.LATE);
        C.due("the day", x.about(3), 0);
        Check.tell(x, "ET100");
        x.day();
        x.well();
        C.due("behind a well", x.undo(), EyeDrink.LATE);
        x.keep(0);
        x.day();
        x.again(0);
        C.due("behind again", x.undo(), EyeDrink.LATE);
    }

    /** A day that brought nothing, as there were nine, takes nothing back when it is undone. */
    private static void undoAtNine() {
        EyeDrink x = Check.wellOf("ET802");
        x.day();
        x.day();
        C.due("undo", x.undo(), 1);
        C.due("still nine", x.thing(0, 3), 9);
        C.due("undo", x.undo(), 0);
        C.due("eight", x.thing(0, 3), 8);
        C.due("the day", x.about(3), 0);
    }

    /** "ACTS (DRUNK, DONE, DAYS)": each can be undone, all that it changed is as ahead of it. */
    private static void undoOfEachAct() {
        EyeDrink x = Check.wellOf("ET931T522Q0410D01702");
        x.drink(0);
        C.due("undo the drink", x.undo(), 0);
        C.due("not known", x.about(4), 0);
        C.due("there", x.thing(0, 3), 9);
        C.due("none away", x.thing(0, 4), 0);
        x.act(0);
        C.due("undo the deed", x.undo(), 0);
        C.due("not done", x.about(5), 0);
        C.due("nothing won", x.about(6), 1000 + 27 + 10);
        C.due("none away", x.thing(0, 4), 0);
        x.drink(0);
        x.day();
        x.day();
        C.due("undo the day", x.undo(), 2);
        C.due("away again", x.thing(0, 4), 4);
        C.due("grown once", x.thing(1, 3), 6);
        C.due("it comes back as the same day ends", x.day(), 5);
        x.undo();
        C.due("undo the day ahead of it", x.undo(), 1);
        C.due("it does not come back at once", x.day(), 1);
        C.due("but a day later", x.day(), 5);
    }

    /** "a row (14 at most)". */
    private static void fourteenActs() {
        EyeDrink x = Check.wellOf("ET900Q0110D01000");
        for (int i = 1; i <= 12; i++) {
            x.day();
            C.due("acts", x.about(7), i);
        }
        x.drink(0);
        C.due("thirteen", x.about(7), 13);
        x.act(0);
        C.due("fourteen", x.about(7), 14);
        for (int i = 13; i >= 0; i--) {
            C.due("undo", x.undo(), i);
        }
        C.due("undo", x.undo(), EyeDrink.LATE);
        C.due("all undone", x.about(3) + x.about(4) + x.about(5), 0);
    }

    /** "when it is full, the first one is forgotten": it stays done for good. */
    private static void theFirstIsForgotten() {
        EyeDrink x = Check.wellOf("ET900Q0110D01000");
        x.drink(0);
        x.act(0);
        for (int i = 0; i < 12; i++) {
            x.day();
        }
        C.due("full", x.about(7), 14);
        x.day();
        C.due("still fourteen", x.about(7), 14);
        for (int i = 13; i >= 0; i--) {
            C.due("undo", x.undo(), i);
            C.due("the day with " + i + " left", x.about(3), Math.max(0, i - 1));
        }
        C.due("undo", x.undo(), EyeDrink.LATE);
        C.due("the drink can't be undone", x.about(4), 1);
        C.due("the deed was", x.about(5), 0);
        C.due("the days were", x.about(3), 0);
    }

    /** "What is refused changes nothing": it forgets no first act either. */
    private static void refusedOnesAreNoActs() {
        EyeDrink x = Check.wellOf("ET100Q0110Q0210D01000D01009");
        x.drink(0);
        x.act(0);
        for (int i = 0; i < 12; i++) {
            x.day();
        }
        x.drink(0);
        x.drink(1);
        x.drink(2);
        x.act(0);
        x.act(1);
        x.act(2);
        C.due("fourteen", x.about(7), 14);
        for (int i = 13; i >= 0; i--) {
            C.due("undo", x.undo(), i);
        }
        C.due("the first one was not forgotten", x.about(4), 0);
    }
}
