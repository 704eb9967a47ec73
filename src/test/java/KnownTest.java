/** Promises 23 to 27: see, unsee, knew, seed, drinkers. */
public final class KnownTest {
    private static final Check C = new Check();

    public static void main(String[] args) {
        seeing();
        knowing();
        fewerDeeds();
        seeds();
        drinkers();
        C.end();
    }

    private static void seeing() {
        EyeDrink x = Check.wellOf("ET900Q0110D01900D00000");
        C.due("see(-1)", x.see(-1, true), EyeDrink.UNKNOWN);
        C.due("see(2)", x.see(2, true), EyeDrink.UNKNOWN);
        for (int i = 1; i <= 6; i++) {
            C.due("see " + i, x.see(i % 2, i % 2 == 0), i);
            C.due("seen", x.about(8), i);
        }
        C.due("see 7", x.see(0, true), EyeDrink.FULL);
        C.due("see 7, unknown", x.see(2, true), EyeDrink.UNKNOWN);
        C.due("seen is no act", x.about(7), 0);
        C.due("unsee", x.unsee(), 6);
        C.due("unsee again", x.unsee(), 0);
        C.due("see", x.see(0, true), 1);
    }

    private static void knew(EyeDrink x, String when, int many, int least, int inAll) {
        C.due(when + ": knew(0)", x.knew(0), many);
        C.due(when + ": knew(1)", x.knew(1), least);
        C.due(when + ": knew(2)", x.knew(2), inAll);
    }

    private static void knowing() {
        EyeDrink x = Check.wellOf("ET900Q0110Q0110Q0110D01900D10000D20500D21400");
        knew(x, "nothing seen", 8, 0, 0);
        x.see(2, false);
        knew(x, "2 is 1, as not done", 4, 4, 4);
        x.see(1, true);
        knew(x, "1 is 0, though nothing is won", 2, 4, 4);
        x.see(0, true);
        knew(x, "0 is 1", 1, 5, 5);
        x.see(3, true);
        knew(x, "the same once more", 1, 5, 5);
        x.see(3, false);
        knew(x, "done and not done", 0, EyeDrink.NONE, EyeDrink.NONE);
        x.unsee();
        x.drink(0);
        knew(x, "what is known does not count", 8, 0, 0);
        C.due("knew(-1)", x.knew(-1), EyeDrink.BAD);
        C.due("knew(3)", x.knew(3), EyeDrink.BAD);
    }

    private static void fewerDeeds() {
        EyeDrink x = Check.wellOf("ET900Q0110D01900D00900");
        x.see(1, true);
        x.see(0, true);
        knew(x, "they speak against each other", 0, EyeDrink.NONE, EyeDrink.NONE);
        Check.tell(x, "ET900Q0110Q0110D10900");
        x.well();
        C.due("seen stays", x.about(8), 2);
        knew(x, "deed 1 is not looked at, deed 0 is another one", 2, 0, 0);
        x.see(0, false);
        knew(x, "none", 0, EyeDrink.NONE, EyeDrink.NONE);
        Check.tell(x, "E");
        x.well();
        knew(x, "no question", 1, 0, 0);
        C.due("see(0) at nothing", x.see(0, true), EyeDrink.UNKNOWN);
        C.due("unsee", x.unsee(), 3);
    }

    private static void seeds() {
        EyeDrink x = new EyeDrink();
        C.due("seed", x.seed(Long.MIN_VALUE), 0);
        C.due("seed", x.seed(-1), Long.MIN_VALUE);
        C.due("drinkers(0)", x.drinkers(0), EyeDrink.BAD);
        C.due("drinkers(31)", x.drinkers(31), EyeDrink.BAD);
        C.due("drinkers(-1)", x.drinkers(-1), EyeDrink.BAD);
        C.due("refused: the seed stays", x.seed(0), -1);
        C.due("drinkers(1)", x.drinkers(1), 1000);
        C.due("seed behind one", x.seed(0), 1442695040888963407L);
        x.drinkers(2);
        C.due("seed behind two", x.seed(0), 1442695040888963407L * 6364136223846793005L + 1442695040888963407L);
        Check.tell(x, "E");
        x.seed(77);
        x.well();
        C.due("the seed stays", x.seed(0), 77);
    }

    /** The same as by hand: the choices are made on a second object by drink, act and day. */
    private static void drinkers() {
        String[] wells = {"ET950T431T522T763Q0210Q1107Q2203Q3110D01501D11712D20321D31930", "ET991Q0410D01703",
            "ET112Q0910", "ET300", "E"};
        for (String text : wells) {
            EyeDrink x = Check.wellOf(text);
            for (int m = 1; m <= 30; m++) {
                EyeDrink y = Check.wellOf(text);
                long s = m * 1000003L - 7;
                x.seed(s);
                for (int i = 0; i < m; i++) {
                    s = s * 6364136223846793005L + 1442695040888963407L;
                    int choice = (int) Long.remainderUnsigned(s >>> 33, 8);
                    if (choice < 4) {
                        y.drink(choice);
                    } else {
                        y.act(choice - 4);
                    }
                    y.day();
                }
                C.due(text + ": drinkers(" + m + ")", x.drinkers(m), y.about(6));
                C.due(text + ": the seed", x.seed(0), s);
            }
            C.due(text + ": nothing changes", x.about(3) + x.about(4) + x.about(5) + x.about(7), 0);
        }
    }
}
