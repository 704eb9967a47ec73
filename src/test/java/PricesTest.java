/** Promises 20 to 22: partners, keeper, byTurns. */
public final class PricesTest {
    private static final Check C = new Check();

    public static void main(String[] args) {
        EyeDrink x = new EyeDrink();
        partners(x);
        allPartners(x);
        keepers(x);
        allKeepersOfThree(x);
        turns(x);
        C.end();
    }

    private static void partners(EyeDrink x) {
        // 7 by 3 tenths is 2.1, up: 3
        C.due("partners(7, 3, 4, 0)", x.partners(7, 3, 4, 0), 2);
        C.due("partners(7, 3, 4, 1)", x.partners(7, 3, 4, 1), 3);
        C.due("partners(1, 1, 0, 0)", x.partners(1, 1, 0, 0), 10);
        C.due("partners(1, 1, 0, 1)", x.partners(1, 1, 0, 1), 1);
        C.due("partners(1, 0, 1, 0)", x.partners(1, 0, 1, 0), 1);
        C.due("partners(9, 0, 8, 0)", x.partners(9, 0, 8, 0), 0);
        C.due("partners(9, 0, 8, 1)", x.partners(9, 0, 8, 1), EyeDrink.NONE);
        int[][] bad = {{0, 1, 1, 0}, {10, 1, 1, 0}, {1, -1, 1, 0}, {1, 10, 1, 0}, {1, 1, -1, 0}, {1, 1, 10, 0},
            {1, 1, 1, -1}, {1, 1, 1, 2}, {Integer.MIN_VALUE, 1, 1, 0}, {1, Integer.MAX_VALUE, 1, 0}};
        for (int[] b : bad) {
            C.due("partners, bad", x.partners(b[0], b[1], b[2], b[3]), EyeDrink.BAD);
        }
    }

    private static void allPartners(EyeDrink x) {
        for (int p = 1; p <= 9; p++) {
            for (int a = 0; a <= 9; a++) {
                for (int b = 0; b <= 9; b++) {
                    int count = 0;
                    int least = EyeDrink.NONE;
                    for (int share = 10; share >= 0; share--) {
                        int pays = (int) Math.ceil(p * share / 10.0);
                        if (pays <= a && p - pays <= b) {
                            count++;
                            least = share;
                        }
                    }
                    C.due("partners " + p + a + b + ", 0", x.partners(p, a, b, 0), count);
                    C.due("partners " + p + a + b + ", 1", x.partners(p, a, b, 1), least);
                }
            }
        }
    }

    private static void keepers(EyeDrink x) {
        C.due("keeper(1, 7, 0)", x.keeper(1, 7, 0), 7);
        C.due("keeper(1, 7, 1)", x.keeper(1, 7, 1), 7);
        C.due("keeper(1, 10, 0)", x.keeper(1, 10, 0), EyeDrink.BAD);
        C.due("keeper(2, 36, 0): 3 twice is 6 once", x.keeper(2, 36, 0), 3);
        C.due("keeper(2, 36, 1)", x.keeper(2, 36, 1), 6);
        C.due("keeper(2, 37, 0)", x.keeper(2, 37, 0), 7);
        C.due("keeper(6, 5, 0)", x.keeper(6, 5, 0), 5);
        C.due("keeper(6, 111111, 1)", x.keeper(6, 111111, 1), 6);
        C.due("keeper(6, 0, 0)", x.keeper(6, 0, 0), 1);
        C.due("keeper(6, 0, 1)", x.keeper(6, 0, 1), 0);
        C.due("keeper(3, 999, 0)", x.keeper(3, 999, 0), 9);
        C.due("keeper(3, 1000, 0)", x.keeper(3, 1000, 0), EyeDrink.BAD);
        C.due("keeper(6, 1000000, 0)", x.keeper(6, 1000000, 0), EyeDrink.BAD);
        C.due("keeper(6, max, 0)", x.keeper(6, Integer.MAX_VALUE, 0), EyeDrink.BAD);
        C.due("keeper(6, -1, 0)", x.keeper(6, -1, 0), EyeDrink.BAD);
        C.due("keeper(0, 0, 0)", x.keeper(0, 0, 0), EyeDrink.BAD);
        C.due("keeper(7, 0, 0)", x.keeper(7, 0, 0), EyeDrink.BAD);
        C.due("keeper(min, 0, 0)", x.keeper(Integer.MIN_VALUE, 0, 0), EyeDrink.BAD);
        C.due("keeper(1, 1, -1)", x.keeper(1, 1, -1), EyeDrink.BAD);
        C.due("keeper(1, 1, 2)", x.keeper(1, 1, 2), EyeDrink.BAD);
    }

    private static void allKeepersOfThree(EyeDrink x) {
        for (int row = 0; row < 1000; row++) {
            int bestPrice = 0;
            int most = -1;
            for (int price = 1; price <= 9; price++) {
                int payers = (row / 100 >= price ? 1 : 0) + (row / 10 % 10 >= price ? 1 : 0)
                        + (row % 10 >= price ? 1 : 0);
                if (payers * price > most) {
                    most = payers * price;
                    bestPrice = price;
                }
            }
            C.due("keeper(3, " + row + ", 0)", x.keeper(3, row, 0), bestPrice);
            C.due("keeper(3, " + row + ", 1)", x.keeper(3, row, 1), most);
            C.due("keeper(6, " + row + ", 1)", x.keeper(6, row, 1), most);
        }
    }

    private static void turns(EyeDrink x) {
        for (int w = 0; w <= 9; w++) {
            C.due("one turn", x.byTurns(w, 1), w);
            for (int n = 1; n <= 6; n++) {
                C.due("byTurns(" + w + ", " + n + ")", x.byTurns(w, n), playFrom(0, w, n)[0]);
            }
        }
        C.due("byTurns(9, 2)", x.byTurns(9, 2), 1);
        C.due("byTurns(2, 6)", x.byTurns(2, 6), 1);
        C.due("byTurns(-1, 1)", x.byTurns(-1, 1), EyeDrink.BAD);
        C.due("byTurns(10, 1)", x.byTurns(10, 1), EyeDrink.BAD);
        C.due("byTurns(1, 0)", x.byTurns(1, 0), EyeDrink.BAD);
        C.due("byTurns(1, 7)", x.byTurns(1, 7), EyeDrink.BAD);
    }

    /** What the keeper and the drinker have, from this turn on. */
    private static int[] playFrom(int turn, int w, int n) {
        if (turn == n) {
            return new int[] {0, 0};
        }
        int[] next = playFrom(turn + 1, w, n);
        int namer = turn % 2;
        int[] best = null;
        for (int price = 0; price <= 9; price++) {
            int[] have = {price, Math.max(0, w - turn) - price};
            boolean taken = have[1 - namer] >= next[1 - namer];
            if (taken && (best == null || have[namer] > best[namer])) {
                best = have;
            }
        }
        return best != null && best[namer] >= next[namer] ? best : next;
    }
}
