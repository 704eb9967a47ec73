/** Bounds of PARTNERS, KEEPER and TURNS (terms, part 3) and of promises 20 to 22, sentence by sentence. */
public final class PricesBoundsTest {
    private static final int[] FAR_OFF = {-9, 100, Integer.MIN_VALUE, Integer.MAX_VALUE};
    private static final Check C = new Check();

    public static void main(String[] args) {
        EyeDrink x = new EyeDrink();
        oneOrOtherPaysAll(x);
        tenthsAreRoundedUp(x);
        noMoreThanItIsWorth(x);
        partnersAreBad(x);
        keeperAtBothEnds(x);
        asMuchOrMore(x);
        ofLikeOnesTheLeast(x);
        everyFigureOfARow(x);
        keeperIsBad(x);
        turnsAtBothEnds(x);
        turnsAreBad(x);
        nothingIsChanged();
        C.end();
    }

    private static void partnersAre(EyeDrink x, int p, int a, int b, int many, int least) {
        C.due("partners(" + p + ", " + a + ", " + b + ", 0)", x.partners(p, a, b, 0), many);
        C.due("partners(" + p + ", " + a + ", " + b + ", 1)", x.partners(p, a, b, 1), least);
    }

    /** "the one pays x tenths (0 .. 10; up), the other one what is left": with 0 and with 10, too. */
    private static void oneOrOtherPaysAll(EyeDrink x) {
        int[] leastForAll = {0, 1, 6, 7, 8, 9, 9, 9, 9, 9};
        for (int p = 1; p <= 9; p++) {
            partnersAre(x, p, 0, p, 1, 0);
            partnersAre(x, p, p, 0, 11 - leastForAll[p], leastForAll[p]);
            partnersAre(x, p, p, p, 11, 0);
            partnersAre(x, p, 9, 9, 11, 0);
        }
    }

    /** "x tenths (.. up)": just a whole part stays, the least bit more is one more. */
    private static void tenthsAreRoundedUp(EyeDrink x) {
        partnersAre(x, 5, 1, 4, 2, 1);
        partnersAre(x, 5, 2, 3, 2, 3);
        partnersAre(x, 5, 4, 1, 2, 7);
        partnersAre(x, 9, 1, 8, 1, 1);
        partnersAre(x, 9, 8, 1, 1, 8);
        partnersAre(x, 4, 2, 2, 3, 3);
        partnersAre(x, 8, 4, 4, 2, 4);
    }

    /** "by which neither pays more than that: how many; the least; NONE." */
    private static void noMoreThanItIsWorth(EyeDrink x) {
        for (int p = 1; p <= 9; p++) {
            for (int a = 0; a < p; a++) {
                partnersAre(x, p, a, p - 1 - a, 0, EyeDrink.NONE);
                C.holds("just enough for both", x.partners(p, a, p - a, 0) > 0);
            }
            partnersAre(x, p, 0, 0, 0, EyeDrink.NONE);
        }
    }

    /** "BAD: p, a, b, what.": p 1 .. 9, a and b 0 .. 9, what 0 .. 1. */
    private static void partnersAreBad(EyeDrink x) {
        int[][] bad = {{0, 5, 5, 0}, {10, 9, 9, 0}, {5, -1, 5, 0}, {5, 10, 5, 0}, {5, 5, -1, 0}, {5, 5, 10, 0},
            {5, 5, 5, -1}, {5, 5, 5, 2}, {-1, 5, 5, 1}};
        for (int[] b : bad) {
            C.due("partners" + java.util.Arrays.toString(b), x.partners(b[0], b[1], b[2], b[3]), EyeDrink.BAD);
        }
        for (int off : FAR_OFF) {
            C.due("p " + off, x.partners(off, 5, 5, 0), EyeDrink.BAD);
            C.due("a " + off, x.partners(5, off, 5, 0), EyeDrink.BAD);
            C.due("b " + off, x.partners(5, 5, off, 0), EyeDrink.BAD);
            C.due("what " + off, x.partners(5, 5, 5, off), EyeDrink.BAD);
        }
        partnersAre(x, 1, 0, 0, 0, EyeDrink.NONE);
        partnersAre(x, 9, 0, 9, 1, 0);
    }

    private static void keeperIs(EyeDrink x, int n, int row, int price, int brings) {
        C.due("keeper(" + n + ", " + row + ", 0)", x.keeper(n, row, 0), price);
        C.due("keeper(" + n + ", " + row + ", 1)", x.keeper(n, row, 1), brings);
    }

    /** "n drinkers (1 .. 6)", "(0 .. 9 each)", "the price (1 .. 9) that brings most". */
    private static void keeperAtBothEnds(EyeDrink x) {
        int ones = 0;
        for (int n = 1; n <= 6; n++) {
            ones = 10 * ones + 1;
            keeperIs(x, n, 0, 1, 0);
            keeperIs(x, n, ones, 1, n);
            keeperIs(x, n, 9 * ones, 9, 9 * n);
            keeperIs(x, n, 9, 9, 9);
        }
    }

    /** "each pays the price, if it is worth as much or more to it". */
    private static void asMuchOrMore(EyeDrink x) {
        for (int worth = 1; worth <= 9; worth++) {
            keeperIs(x, 1, worth, worth, worth);
            keeperIs(x, 2, 11 * worth, worth, 2 * worth);
        }
        keeperIs(x, 2, 58, 5, 10);
        keeperIs(x, 2, 85, 5, 10);
        keeperIs(x, 6, 111119, 9, 9);
        keeperIs(x, 6, 222222, 2, 12);
    }

    /** "of like ones the least". */
    private static void ofLikeOnesTheLeast(EyeDrink x) {
        keeperIs(x, 2, 12, 1, 2);
        keeperIs(x, 2, 48, 4, 8);
        keeperIs(x, 2, 84, 4, 8);
        keeperIs(x, 3, 236, 2, 6);
        keeperIs(x, 6, 111236, 1, 6);
        keeperIs(x, 6, 111136, 1, 6);
        keeperIs(x, 6, 111137, 7, 7);
    }

    /** A figure counts wherever it stands; those ahead of a short row are 0. */
    private static void everyFigureOfARow(EyeDrink x) {
        int at = 1;
        for (int i = 0; i < 6; i++) {
            keeperIs(x, 6, 7 * at, 7, 7);
            keeperIs(x, 6, 111111 + 8 * at, 9, 9);
            keeperIs(x, 6, 444444 - 4 * at, 4, 20);
            at *= 10;
        }
    }

    /** "BAD: n, row (0 or more, n figures at most), what." */
    private static void keeperIsBad(EyeDrink x) {
        int first = 1;
        for (int n = 1; n <= 6; n++) {
            first *= 10;
            C.holds("the last row of " + n, x.keeper(n, first - 1, 0) == 9);
            C.due("the first that is too long for " + n, x.keeper(n, first, 0), EyeDrink.BAD);
            C.due("a row below 0 of " + n, x.keeper(n, -1, 0), EyeDrink.BAD);
            C.due("what 2 of " + n, x.keeper(n, 0, 2), EyeDrink.BAD);
            C.due("what -1 of " + n, x.keeper(n, 0, -1), EyeDrink.BAD);
        }
        C.due("n 0", x.keeper(0, 0, 0), EyeDrink.BAD);
        C.due("n 7", x.keeper(7, 0, 0), EyeDrink.BAD);
        C.due("n 7, a row of seven", x.keeper(7, 1234567, 0), EyeDrink.BAD);
        C.due("n -1", x.keeper(-1, 0, 0), EyeDrink.BAD);
        for (int off : FAR_OFF) {
            C.due("n " + off, x.keeper(off, 0, 0), EyeDrink.BAD);
            C.due("row " + off, x.keeper(1, off, 0), EyeDrink.BAD);
            C.due("what " + off, x.keeper(1, 0, off), EyeDrink.BAD);
        }
    }

    /**
     * "n turns at most (1 .. 6), the keeper first", "w less i (w 0 .. 9; 0 at least)". By hand: who names
     * at a turn wins what the worth falls behind it, as the other one must be left what the next turn would.
     */
    private static void turnsAtBothEnds(EyeDrink x) {
        int[][] want = {{0, 0, 0, 0, 0, 0}, {1, 1, 1, 1, 1, 1}, {2, 1, 1, 1, 1, 1}, {3, 1, 2, 2, 2, 2},
            {4, 1, 3, 2, 2, 2}, {5, 1, 4, 2, 3, 3}, {6, 1, 5, 2, 4, 3}, {7, 1, 6, 2, 5, 3}, {8, 1, 7, 2, 6, 3},
            {9, 1, 8, 2, 7, 3}};
        for (int w = 0; w <= 9; w++) {
            for (int n = 1; n <= 6; n++) {
                C.due("byTurns(" + w + ", " + n + ")", x.byTurns(w, n), want[w][n - 1]);
            }
        }
    }

    /** "BAD: w, n." */
    private static void turnsAreBad(EyeDrink x) {
        for (int n = 1; n <= 6; n++) {
            C.due("w -1", x.byTurns(-1, n), EyeDrink.BAD);
            C.due("w 10", x.byTurns(10, n), EyeDrink.BAD);
        }
        for (int w = 0; w <= 9; w++) {
            C.due("n 0", x.byTurns(w, 0), EyeDrink.BAD);
            C.due("n 7", x.byTurns(w, 7), EyeDrink.BAD);
            C.due("n -1", x.byTurns(w, -1), EyeDrink.BAD);
        }
        for (int off : FAR_OFF) {
            C.due("w " + off, x.byTurns(off, 1), EyeDrink.BAD);
            C.due("n " + off, x.byTurns(1, off), EyeDrink.BAD);
        }
    }

    /** Prices are asked of nothing but what is told with them. */
    private static void nothingIsChanged() {
        Twins.unchangedBy(C, "partners", Twins::busy, x -> x.partners(9, 9, 9, 1));
        Twins.unchangedBy(C, "keeper", Twins::busy, x -> x.keeper(6, 123456, 1));
        Twins.unchangedBy(C, "byTurns", Twins::busy, x -> x.byTurns(9, 6));
        EyeDrink x = new EyeDrink();
        Twins.busy(x);
        partnersAre(x, 9, 9, 0, 2, 9);
        keeperIs(x, 6, 999999, 9, 54);
        C.due("byTurns(9, 6)", x.byTurns(9, 6), 3);
    }
}
