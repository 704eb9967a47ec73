/** Bounds of CAN, TREES, REGRET, NEVER, SHORT (terms, part 2) and of promises 14 to 19, sentence by sentence. */
public final class TreesBoundsTest {
    private static final int[] NOT_0_OR_1 = {-1, 2, 3, -9, Integer.MIN_VALUE, Integer.MAX_VALUE};
    private static final Check C = new Check();

    public static void main(String[] args) {
        nothingToChoose();
        canAtBothEnds();
        canByJustEnough();
        canIsBad();
        endsAtOnce();
        enoughInATree();
        noDayGoesBy();
        worthlessInATree();
        partsOfTheMean();
        meanAtBothEnds();
        tenthsAtBothEnds();
        eachAnswerByItself();
        wonOfNowStays();
        worstWhateverTheAnswers();
        firstIsEachQuestion();
        firstIsEachDeed();
        firstIsTheLeast();
        meanAndWorstAreBad();
        regretByOne();
        regretWhateverTheAnswer();
        regretIsRefused();
        neverAtBothEnds();
        neverOfOneLess();
        shortByOne();
        shortOfEachThing();
        shortWithoutDoneOnes();
        shortIsBad();
        nothingIsChanged();
        C.end();
    }

    private static void meanIs(EyeDrink x, String name, int best, int first) {
        C.due(name + ": mean(0)", x.mean(0), best);
        C.due(name + ": mean(1)", x.mean(1), first);
    }

    private static void worstIs(EyeDrink x, String name, int best, int first) {
        C.due(name + ": worst(0)", x.worst(0), best);
        C.due(name + ": worst(1)", x.worst(1), first);
    }

    /** At nothing, at E, and where there are things alone. */
    private static void nothingToChoose() {
        EyeDrink[] some = {new EyeDrink(), Check.wellOf("E"), Check.wellOf("ET293")};
        int[] estate = {1000, 1000, 1018};
        for (int i = 0; i < some.length; i++) {
            EyeDrink x = some[i];
            meanIs(x, "nothing " + i, 10 * estate[i], 0);
            worstIs(x, "nothing " + i, estate[i], 0);
            C.due("can", x.can(0) + x.can(1), 0);
            C.due("never", x.never(), 0);
            C.due("shortFor(0)", x.shortFor(0), 0);
            C.due("regret(0)", x.regret(0), EyeDrink.UNKNOWN);
        }
    }

    /** "CAN: QUESTIONS, DEEDS (bits) that could be DRUNK, DONE now": none, all, each that is over is out. */
    private static void canAtBothEnds() {
        EyeDrink x = Check.wellOf("ET900Q0110Q0110Q0110Q0110D01000D01000D01000D01000");
        int left = 15;
        for (int i = 3; i >= 0; i--) {
            C.due("questions", x.can(0), left);
            C.due("deeds", x.can(1), left);
            x.drink(i);
            x.act(i);
            left -= 1 << i;
        }
        C.due("no question", x.can(0), 0);
        C.due("no deed", x.can(1), 0);
        x.undo();
        C.due("deed 0 again", x.can(1), 1);
        C.due("no question", x.can(0), 0);
    }

    /** CAN looks at what is there now: just enough, one too few. */
    private static void canByJustEnough() {
        EyeDrink x = Check.wellOf("ET300T400Q0310Q0410Q1410Q1510D00003D00004D00014D00015");
        C.due("questions", x.can(0), 1 + 4);
        C.due("deeds", x.can(1), 1 + 4);
        x.drink(0);
        C.due("none of thing 0 is left", x.can(0), 4);
        C.due("none of thing 0 is left", x.can(1), 4);
        EyeDrink y = Check.wellOf("ET102Q0110Q0110Q0210D00000D00001D00002");
        y.drink(0);
        C.due("none is left", y.can(0), 0);
        C.due("one that takes nothing", y.can(1), 1);
        y.day();
        C.due("one is left", y.can(0), 2);
        C.due("one is left", y.can(1), 3);
        y.day();
        C.due("two are left", y.can(0), 6);
        C.due("two are left", y.can(1), 7);
    }

    /** "QUESTIONS (what = 0), DEEDS (1). BAD." */
    private static void canIsBad() {
        EyeDrink x = Check.wellOf("ET900Q0110D01000");
        for (int what : NOT_0_OR_1) {
            C.due("can(" + what + ")", x.can(what), EyeDrink.BAD);
            C.due("can(" + what + ") at nothing", new EyeDrink().can(what), EyeDrink.BAD);
        }
    }

    /** "then it ends (at once, too)": if all that could be chosen loses. */
    private static void endsAtOnce() {
        EyeDrink x = Check.wellOf("ET990Q0109D00900");
        meanIs(x, "all loses", 108100, 0);
        worstIs(x, "all loses", 1081, 0);
        x.act(0);
        x.drink(0);
        meanIs(x, "all is over", 10 * (1072 + 9), 0);
        worstIs(x, "all is over", 1072 + 9, 0);
    }

    /** "QUESTIONS are DRUNK, DEEDS DONE, one behind the other": as long as there is enough for both. */
    private static void enoughInATree() {
        for (int p = 1; p <= 8; p++) {
            for (int n = p; n <= 9; n++) {
                for (int u = 1; u <= n; u++) {
                    EyeDrink x = Check.wellOf("ET" + n + "00Q0" + p + "05D0190" + u);
                    boolean both = p + u <= n;
                    meanIs(x, "price " + p + ", taking " + u + " of " + n, both ? 100450 : 100000, both ? 1 : 0);
                }
            }
        }
    }

    /** "no DAY goes by": what comes back or grows with the next day does not help. */
    private static void noDayGoesBy() {
        for (int kind = 1; kind <= 2; kind++) {
            EyeDrink x = Check.wellOf("ET10" + kind + "Q0110D01901");
            x.drink(0);
            meanIs(x, "none there", 10000, 0);
            worstIs(x, "none there", 1000, 0);
            x.day();
            x.day();
            meanIs(x, "there again", 10090, 5);
            worstIs(x, "there again", 1009, 5);
        }
    }

    /** "of a WORTHLESS THING it is nothing, if there are fewer": at the end of a tree, too. */
    private static void worthlessInATree() {
        EyeDrink x = Check.wellOf("ET293Q0106D01900");
        meanIs(x, "whole", 101980, 5);
        worstIs(x, "whole", 1018, 0);
        x.drink(0);
        meanIs(x, "spoilt, it would lose", 10000, 0);
        EyeDrink y = Check.wellOf("ET293Q0110D01900D01901");
        y.drink(0);
        // what is left is worth nothing any more, so both deeds are done
        meanIs(y, "spoilt, both win", 10180, 5);
        worstIs(y, "spoilt, both win", 1018, 5);
    }

    /** "in parts of ten to the power of 1 and how many QUESTIONS are not KNOWN now". */
    private static void partsOfTheMean() {
        for (int n = 0; n <= 4; n++) {
            EyeDrink x = Check.wellOf("ET900" + "Q0105".repeat(n));
            int parts = 10;
            for (int q = 0; q < n; q++) {
                parts *= 10;
            }
            meanIs(x, n + " not known", 1000 * parts, 0);
            for (int q = n - 1; q >= 0; q--) {
                x.drink(q);
                parts /= 10;
                meanIs(x, q + " of " + n + " not known", 1000 * parts, 0);
            }
        }
    }

    /** The greatest and the least figures that there can be. */
    private static void meanAtBothEnds() {
        EyeDrink most = Check.wellOf("ET990T990T990T990Q0100Q0100Q0100Q0100D00900D10900D20900D30900");
        meanIs(most, "most", 136000000, 5);
        worstIs(most, "most", 1324, 0);
        EyeDrink least = Check.wellOf("ET100Q0110Q0110Q0110Q0110D00900D10900D20900D30900");
        for (int d = 0; d < 4; d++) {
            least.act(d);
        }
        meanIs(least, "least", 96400000, 0);
        worstIs(least, "least", 964, 0);
    }

    /** "the answer of each QUESTION that is not KNOWN now is 1 by its tenths": 0 .. 9. */
    private static void tenthsAtBothEnds() {
        for (int h = 0; h <= 9; h++) {
            EyeDrink one = Check.wellOf("ET990Q091" + h + "D01900");
            meanIs(one, h + " tenths, for 1", 108100 + Math.max(0, 90 * (2 * h - 10)), h > 5 ? 5 : 0);
            EyeDrink zero = Check.wellOf("ET990Q091" + h + "D00900");
            meanIs(zero, h + " tenths, for 0", 108100 + Math.max(0, 90 * (10 - 2 * h)), h < 5 ? 5 : 0);
            // drunk for nothing of worth: done only if it wins
            EyeDrink free = Check.wellOf("ET100Q010" + h + "D01900");
            meanIs(free, h + " tenths, free", 100000 + 90 * h, h == 0 ? 0 : 1);
        }
    }

    /** "by itself": answers do not hang on one another. */
    private static void eachAnswerByItself() {
        EyeDrink x = Check.wellOf("ET190Q0917Q0912D01500D10500");
        meanIs(x, "two that can't be drunk", 1014000, 5);
        worstIs(x, "two that can't be drunk", 1009, 0);
        EyeDrink y = Check.wellOf("ET200Q0107Q0102D01500D10500");
        // 5 by 7 of 10, and 5 by 8 of 10
        meanIs(y, "two that are free", 1007500, 1);
        worstIs(y, "two that are free", 1000, 0);
    }

    /** "WON of now stays as it is: those answers are looked at for DEEDS DONE in the TREE alone". */
    private static void wonOfNowStays() {
        for (int answer = 0; answer <= 1; answer++) {
            EyeDrink x = Check.wellOf("ET990Q09" + answer + "9D01900D01400");
            x.act(0);
            int won = answer == 1 ? 9 : -9;
            // deed 1 wins 4 by 9 of 10, so 3.2 more
            meanIs(x, "done with answer " + answer, 100 * (1081 + won) + 320, 6);
            worstIs(x, "done with answer " + answer, 1081 + won, 0);
        }
    }

    /** "WORST: the least ESTATE .. whatever those answers are": though tenths of 0 are for one of them. */
    private static void worstWhateverTheAnswers() {
        EyeDrink x = Check.wellOf("ET110Q0100D00900");
        meanIs(x, "sure in the mean", 101000, 5);
        worstIs(x, "not sure at worst", 1001, 0);
        EyeDrink y = Check.wellOf("ET110Q0109D01900D00200");
        worstIs(y, "the lesser one of both answers", 1002, 1);
        // two deeds by one answer can't both go wrong
        EyeDrink z = Check.wellOf("ET190T990Q1910D01901D00900");
        worstIs(z, "one against the other is nothing", 1090, 0);
        EyeDrink v = Check.wellOf("ET993Q0915D01900D01500");
        worstIs(v, "both with the same answer", 1081, 0);
    }

    /** "1 .. 4 that QUESTION (and 1) is DRUNK". */
    private static void firstIsEachQuestion() {
        for (int q = 0; q < 4; q++) {
            StringBuilder text = new StringBuilder("ET100T910");
            for (int i = 0; i < 4; i++) {
                text.append('Q').append(i == q ? 0 : 1).append("105");
            }
            text.append('D').append(q).append("1900D").append(q).append("0900");
            EyeDrink x = Check.wellOf(text.toString());
            meanIs(x, "question " + q, 101800000, 1 + q);
            worstIs(x, "question " + q, 1018, 1 + q);
        }
    }

    /** "5 .. 8 that DEED (and 5) is DONE". */
    private static void firstIsEachDeed() {
        for (int d = 0; d < 4; d++) {
            StringBuilder text = new StringBuilder("ET900Q0110");
            for (int i = 0; i < 4; i++) {
                text.append(i == d ? "D01900" : "D00100");
            }
            EyeDrink x = Check.wellOf(text.toString());
            x.drink(0);
            meanIs(x, "deed " + d, 10090, 5 + d);
            worstIs(x, "deed " + d, 1009, 5 + d);
        }
    }

    /** "by which the greatest is still to be had: the least such one." */
    private static void firstIsTheLeast() {
        // it ends ahead of all that brings nothing
        EyeDrink ends = Check.wellOf("ET100Q0105D00000");
        meanIs(ends, "nothing to win", 100000, 0);
        worstIs(ends, "nothing to win", 1000, 0);
        // a question that tells nothing but costs nothing of worth comes ahead of the deed
        EyeDrink asks = Check.wellOf("ET900Q0110Q0110D01900");
        asks.drink(0);
        meanIs(asks, "free question ahead of the deed", 100900, 2);
        worstIs(asks, "free question ahead of the deed", 1009, 2);
        // the least of two questions that are as good, and of two deeds
        EyeDrink two = Check.wellOf("ET200Q0105Q0105D01900D11900");
        meanIs(two, "two questions", 1009000, 1);
        EyeDrink deeds = Check.wellOf("ET190Q0910D00000D00000D01900D01900");
        C.due("not to be had", deeds.drink(0), EyeDrink.FULL);
        worstIs(deeds, "nothing to win surely", 1009, 0);
        EyeDrink known = Check.wellOf("ET190Q0110D00000D01000D01400D01500");
        known.drink(0);
        meanIs(known, "a deed that wins nothing still leaves the greatest", 10090, 5);
        known.act(0);
        meanIs(known, "so does the next one", 10090, 6);
        known.act(1);
        meanIs(known, "then the first that wins", 10090, 7);
        known.act(2);
        meanIs(known, "and the last", 10090, 8);
        known.act(3);
        meanIs(known, "then it ends", 10090, 0);
    }

    /** "BEST MEAN (what = 0), FIRST of it (1). BAD." and so of WORST. */
    private static void meanAndWorstAreBad() {
        EyeDrink x = Check.wellOf("ET200Q0105D01900");
        for (int what : NOT_0_OR_1) {
            C.due("mean(" + what + ")", x.mean(what), EyeDrink.BAD);
            C.due("worst(" + what + ")", x.worst(what), EyeDrink.BAD);
        }
    }

    /** "how much less BEST WORST is behind it .. than if it could never be DRUNK; 0, if it is not less." */
    private static void regretByOne() {
        for (int worth = 0; worth <= 9; worth++) {
            for (int v = 0; v <= 9; v++) {
                EyeDrink x = Check.wellOf("ET1" + worth + "0Q0100D01" + v + "00D00" + v + "00");
                int less = worth - v;
                C.due("regret, " + worth + " paid, " + v + " won", x.regret(0), Math.max(0, less));
                C.due("never, " + worth + " paid, " + v + " won", x.never(), less <= 0 ? 1 : 0);
            }
        }
        EyeDrink spoilt = Check.wellOf("ET993Q0100");
        C.due("all that a worthless one was worth", spoilt.regret(0), 81);
    }

    /** "behind it (whatever its answer is)": what its answer really is does not help. */
    private static void regretWhateverTheAnswer() {
        for (int answer = 0; answer <= 1; answer++) {
            EyeDrink x = Check.wellOf("ET190Q01" + answer + "9D01900");
            C.due("wins by answer 1 alone", x.regret(0), 9);
            EyeDrink y = Check.wellOf("ET190Q01" + answer + "0D00900");
            C.due("wins by answer 0 alone", y.regret(0), 9);
            EyeDrink z = Check.wellOf("ET190Q01" + answer + "5D00900D01700");
            C.due("wins 7 at least", z.regret(0), 2);
        }
    }

    /** "REGRET. UNKNOWN; LATE: it is KNOWN; FULL: there is not enough.": of several what is told first. */
    private static void regretIsRefused() {
        C.knownToTheLast("regret", "ET910", "Q0100", EyeDrink::regret, 1);
        EyeDrink y = Check.wellOf("ET210Q0210Q0110Q0310");
        C.due("just enough", y.regret(0), 2);
        C.due("one too few", y.regret(2), EyeDrink.FULL);
        C.due("regret(min)", y.regret(Integer.MIN_VALUE), EyeDrink.UNKNOWN);
        C.due("regret(max)", y.regret(Integer.MAX_VALUE), EyeDrink.UNKNOWN);
        y.drink(0);
        C.due("known, and none is left", y.regret(0), EyeDrink.LATE);
        C.due("not known, and none is left", y.regret(1), EyeDrink.FULL);
        C.due("no such one, and none is left", y.regret(3), EyeDrink.UNKNOWN);
    }

    /** "NEVER: QUESTIONS (bits) that could be DRUNK now of which REGRET is 0": none, all. */
    private static void neverAtBothEnds() {
        EyeDrink free = Check.wellOf("ET300Q0110Q0110Q0110Q0110");
        C.due("all are free", free.never(), 15);
        free.drink(1);
        C.due("the known one is out", free.never(), 13);
        free.drink(0);
        free.drink(3);
        C.due("none is left for the last", free.never(), 0);
        EyeDrink dear = Check.wellOf("ET910Q0110Q0110Q0110Q0110");
        C.due("all are regretted", dear.never(), 0);
        EyeDrink few = Check.wellOf("ET200Q0110Q0210Q0310Q0910");
        C.due("of those that can be drunk", few.never(), 3);
    }

    /** Each question by itself, when it alone is regretted, or alone is not. */
    private static void neverOfOneLess() {
        for (int q = 0; q < 4; q++) {
            StringBuilder one = new StringBuilder("ET900T910");
            StringBuilder others = new StringBuilder("ET900T910");
            for (int i = 0; i < 4; i++) {
                one.append('Q').append(i == q ? 1 : 0).append("110");
                others.append('Q').append(i == q ? 0 : 1).append("110");
            }
            C.due("all but " + q, Check.wellOf(one.toString()).never(), 15 - (1 << q));
            C.due("only " + q, Check.wellOf(others.toString()).never(), 1 << q);
        }
    }

    /** "THINGS (bits) of which there are not enough for all of them together". */
    private static void shortByOne() {
        for (int n = 1; n <= 9; n++) {
            for (int u = 0; u <= 9; u++) {
                EyeDrink x = Check.wellOf("ET" + n + "00Q0110D0000" + u + "D0000" + (9 - u) + "D00001");
                C.due(u + " of " + n, x.shortFor(1), u > n ? 1 : 0);
                C.due("nine of " + n, x.shortFor(3), n < 9 ? 1 : 0);
                C.due("ten of " + n, x.shortFor(7), 1);
                C.due("nothing of " + n, x.shortFor(0), 0);
            }
        }
        EyeDrink none = Check.wellOf("ET100Q0110D00000D00001");
        none.drink(0);
        C.due("nothing of none", none.shortFor(1), 0);
        C.due("one of none", none.shortFor(2), 1);
        EyeDrink all = Check.wellOf("ET900Q0110D00009D00009D00009D00009");
        C.due("the most that can be wanted", all.shortFor(15), 1);
    }

    /** Bits of each thing, by the deeds that take of it alone. */
    private static void shortOfEachThing() {
        EyeDrink x = Check.wellOf("ET100T100T100T100Q0100D00002D00012D00022D00032");
        for (int set = 0; set <= 15; set++) {
            C.due("shortFor(" + set + ")", x.shortFor(set), set);
        }
        EyeDrink y = Check.wellOf("ET100T900T100T900Q0100D00002D00012D00032D00022");
        C.due("of things 0 and 2", y.shortFor(15), 5);
        C.due("of thing 2", y.shortFor(8), 4);
    }

    /** "a set of DEEDS that are not DONE (others do not count)". */
    private static void shortWithoutDoneOnes() {
        EyeDrink x = Check.wellOf("ET900Q0110D00009D00001D00000");
        C.due("ten of nine", x.shortFor(3), 1);
        x.act(0);
        C.due("the done one does not count", x.shortFor(1), 0);
        C.due("one of none", x.shortFor(3), 1);
        C.due("nothing of none", x.shortFor(5), 0);
        x.undo();
        x.act(1);
        C.due("nine of eight", x.shortFor(7), 1);
        C.due("nothing", x.shortFor(6), 0);
    }

    /** "BAD: set (of DEEDS that there are)." */
    private static void shortIsBad() {
        for (int n = 0; n <= 4; n++) {
            EyeDrink x = Check.wellOf("ET900Q0110" + "D00000".repeat(n));
            C.due("all of " + n, x.shortFor((1 << n) - 1), 0);
            C.due("one more than all of " + n, x.shortFor(1 << n), EyeDrink.BAD);
            int[] off = {-1, 16, 32, -16, Integer.MIN_VALUE, Integer.MAX_VALUE};
            for (int set : off) {
                C.due("shortFor(" + set + ") of " + n, x.shortFor(set), EyeDrink.BAD);
            }
        }
        EyeDrink y = Check.wellOf("ET900Q0110D00000");
        y.act(0);
        C.due("a done one is a deed that there is", y.shortFor(1), 0);
        C.due("shortFor(2)", y.shortFor(2), EyeDrink.BAD);
        C.due("at nothing", new EyeDrink().shortFor(1), EyeDrink.BAD);
    }

    /** "In what follows nothing is changed." */
    private static void nothingIsChanged() {
        for (int i = 0; i <= 1; i++) {
            int what = i;
            Twins.unchangedBy(C, "can", Twins::busy, x -> x.can(what));
            Twins.unchangedBy(C, "mean", Twins::busy, x -> x.mean(what));
            Twins.unchangedBy(C, "worst", Twins::busy, x -> x.worst(what));
        }
        Twins.unchangedBy(C, "regret", Twins::busy, x -> x.regret(1));
        Twins.unchangedBy(C, "never", Twins::busy, EyeDrink::never);
        Twins.unchangedBy(C, "shortFor", Twins::busy, x -> x.shortFor(7));
    }
}
