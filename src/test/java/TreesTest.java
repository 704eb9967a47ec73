/** Promises 14 to 19: can, mean, worst, regret, never, shortFor, by hand. */
public final class TreesTest {
    private static final Check C = new Check();

    public static void main(String[] args) {
        canBe();
        means();
        hedges();
        firsts();
        regrets();
        regretByTheBestWithoutIt();
        shorts();
        nothingChanges();
        C.end();
    }

    private static void canBe() {
        EyeDrink x = Check.wellOf("ET300T200Q0310Q1210Q0110D00104D00113D00112D00100");
        C.due("can(0)", x.can(0), 7);
        C.due("can(1)", x.can(1), 12);
        x.drink(2);
        x.act(3);
        C.due("can(0) behind", x.can(0), 2);
        C.due("can(1) behind", x.can(1), 4);
        EyeDrink y = Check.wellOf("ET300Q0310D00103");
        C.due("just enough for the question", y.can(0), 1);
        C.due("just enough for the deed", y.can(1), 1);
        C.due("can(-1)", x.can(-1), EyeDrink.BAD);
        C.due("can(2)", x.can(2), EyeDrink.BAD);
    }

    private static void means() {
        // not drunk: 9 by 6 of 10 is 1.8 more; drunk for 1: 5.4 more, if done only when it wins
        EyeDrink x = Check.wellOf("ET210Q0106D01900");
        C.due("mean(0): 1002 - 1 + 5.4", x.mean(0), 100640);
        C.due("mean(1): the question", x.mean(1), 1);
        C.due("worst(0): nothing is done", x.worst(0), 1002);
        C.due("worst(1)", x.worst(1), 0);
        C.due("drink(0)", x.drink(0), 0);
        C.due("mean(0), as it would lose", x.mean(0), 10010);
        C.due("mean(1)", x.mean(1), 0);
        // a dear question: one does it blindly
        EyeDrink y = Check.wellOf("ET290Q0106D01900");
        C.due("mean(0): 1018 + 1.8", y.mean(0), 101980);
        C.due("mean(1): the deed", y.mean(1), 5);
        // what was won stays as it is, though the answer is open
        y.act(0);
        C.due("mean(0) behind it", y.mean(0), 100900);
        C.due("worst(0) behind it", y.worst(0), 1009);
        C.due("mean(-1)", y.mean(-1), EyeDrink.BAD);
        C.due("mean(2)", y.mean(2), EyeDrink.BAD);
        C.due("worst(-1)", y.worst(-1), EyeDrink.BAD);
        C.due("worst(2)", y.worst(2), EyeDrink.BAD);
        // a deed takes what a question needs: one of the two
        EyeDrink z = Check.wellOf("ET100Q0105D01901");
        C.due("mean(0): neither helps", z.mean(0), 100000);
        C.due("mean(1)", z.mean(1), 0);
        // the most parts that there can be
        EyeDrink v = Check.wellOf("ET990Q0900Q0900Q0900Q0900D00900");
        C.due("mean(0) in 100000 parts", v.mean(0), 109000000);
        C.due("mean(1)", v.mean(1), 5);
    }

    /** Two deeds on one open answer: one of them wins, whatever it is. */
    private static void hedges() {
        EyeDrink x = Check.wellOf("ET900Q0100D01900D00400");
        C.due("worst(0): knowing, 4 at least are won", x.worst(0), 1004);
        C.due("worst(1): the question, then the deed that wins", x.worst(1), 1);
        EyeDrink y = Check.wellOf("ET290T110Q1100D01900D00900D01300Q0100D10800");
        // 9 and 9 against each other is nothing either way; knowing costs 1 for 9 at least
        C.due("worst(0)", y.worst(0), 1018 + 1 - 1 + 9);
        y.drink(1);
        C.due("an answer that is known is used", y.worst(0), 1009 + 8 + 9);
        C.due("worst(1)", y.worst(1), 1);
        // done blindly first, then the one against it once it is known: no better
        EyeDrink z = Check.wellOf("ET100T990Q1100D01501D00500");
        C.due("z worst(0): knowing costs 9, wins 5", z.worst(0), 1081);
        C.due("z worst(1)", z.worst(1), 0);
        z.act(0);
        C.due("z: won of now stays", z.worst(0), 1081 - 5);
    }

    private static void firsts() {
        // ending is as good as a deed that wins nothing
        EyeDrink x = Check.wellOf("ET100Q0105D00000");
        C.due("mean(1): it ends", x.mean(1), 0);
        // both questions are as good: the least; deeds behind questions
        EyeDrink y = Check.wellOf("ET200Q0105Q0105D01900D11900");
        C.due("mean(0): 4.5 each", y.mean(0), 1009000);
        C.due("mean(1)", y.mean(1), 1);
        C.due("worst(1)", y.worst(1), 0);
        // a sure deed at worst: known, so done
        y.drink(0);
        C.due("answer", y.question(0, 3), 0);
        EyeDrink z = Check.wellOf("ET200Q0110D00300D01300D01400");
        z.drink(0);
        C.due("worst(0)", z.worst(0), 1007);
        C.due("worst(1): the least deed that wins", z.worst(1), 6);
        C.due("mean(1)", z.mean(1), 6);
        C.due("mean(0)", z.mean(0), 10070);
        // a question is free, and asking first loses nothing, so it comes ahead of the deed
        EyeDrink v = Check.wellOf("ET200Q0109D01900");
        C.due("v mean(0): 8.1", v.mean(0), 100810);
        C.due("v mean(1)", v.mean(1), 1);
        // the same with a question that helps nothing and costs nothing of worth
        EyeDrink w = Check.wellOf("ET100T100Q0100Q1100D01000D10300");
        C.due("w mean(1): question 0 still leaves the greatest", w.mean(1), 1);
        C.due("w worst(1): it ends", w.worst(1), 0);
        C.due("w worst(0): it is done only if it wins", w.worst(0), 1000);
    }

    private static void regrets() {
        EyeDrink x = Check.wellOf("ET250Q0100Q0300D01900D00900");
        // without question 0: 1010; behind it: 1005 and 9, whatever its answer is
        C.due("regret(0)", x.regret(0), 0);
        C.due("regret(1): too dear", x.regret(1), EyeDrink.FULL);
        C.due("regret(-1)", x.regret(-1), EyeDrink.UNKNOWN);
        C.due("regret(2)", x.regret(2), EyeDrink.UNKNOWN);
        C.due("never()", x.never(), 1);
        x.drink(0);
        C.due("regret(0), known", x.regret(0), EyeDrink.LATE);
        C.due("never() behind", x.never(), 0);
        // of two questions that tell of different deeds only the second is worth its price
        EyeDrink y = Check.wellOf("ET640Q0100Q0200D01300D00300D11900D10900");
        C.due("y regret(0): 4 less 3", y.regret(0), 1);
        C.due("y regret(1): 8 less 9", y.regret(1), 0);
        C.due("y never()", y.never(), 2);
        C.due("y worst(0)", y.worst(0), 1025);
        C.due("y worst(1)", y.worst(1), 2);
        // three questions that cost nothing of worth are never regretted, the fourth is
        EyeDrink v = Check.wellOf("ET900T910Q0110Q0210Q1110Q0510D20900");
        C.due("v never()", v.never(), 11);
        C.due("v regret(2): one paid, nothing sure won", v.regret(2), 1);
        v.drink(3);
        C.due("v never() behind", v.never(), 3);
        v.drink(1);
        C.due("v never() behind that", v.never(), 1);
        EyeDrink z = new EyeDrink();
        C.due("z never()", z.never(), 0);
        C.due("z regret(0)", z.regret(0), EyeDrink.UNKNOWN);
    }

    /**
     * Question 1 pays only if the answer of question 0 is 0, so the best tree asks it there
     * alone: REGRET is by the best without it (1003), not by the best of all (1006).
     */
    private static void regretByTheBestWithoutIt() {
        EyeDrink x = Check.wellOf("ET100T100T210Q0105Q2205D01511D00110D11511D10511");
        C.due("worst(0)", x.worst(0), 1006);
        C.due("worst(1)", x.worst(1), 1);
        C.due("regret(1): 1005 behind it", x.regret(1), 0);
        C.due("regret(0): 1006 behind it, 1005 without", x.regret(0), 0);
        C.due("never()", x.never(), 3);
    }

    private static void shorts() {
        EyeDrink x = Check.wellOf("ET500T300Q0110D00103D00103D00114D00113");
        C.due("shortFor(0)", x.shortFor(0), 0);
        C.due("shortFor(1)", x.shortFor(1), 0);
        C.due("shortFor(3)", x.shortFor(3), 1);
        C.due("shortFor(4)", x.shortFor(4), 2);
        C.due("shortFor(8)", x.shortFor(8), 0);
        C.due("shortFor(15)", x.shortFor(15), 3);
        C.due("shortFor(16)", x.shortFor(16), EyeDrink.BAD);
        C.due("shortFor(-1)", x.shortFor(-1), EyeDrink.BAD);
        C.due("shortFor(min)", x.shortFor(Integer.MIN_VALUE), EyeDrink.BAD);
        x.act(0);
        C.due("a done one does not count", x.shortFor(1), 0);
        C.due("two are left for three", x.shortFor(3), 1);
        C.due("two are left for three", x.shortFor(2), 1);
    }

    private static void nothingChanges() {
        EyeDrink x = Check.wellOf("ET521T331Q0110Q1115D01901D11812");
        x.drink(1);
        x.day();
        x.mean(0);
        x.mean(1);
        x.worst(0);
        x.worst(1);
        x.regret(0);
        x.never();
        x.shortFor(3);
        x.can(0);
        C.due("acts", x.about(7), 2);
        C.due("known", x.about(4), 2);
        C.due("done", x.about(5), 0);
        C.due("estate", x.about(6), 1016);
        C.due("away", x.thing(1, 4), 1);
        C.due("comes back", x.day(), 1);
    }
}
