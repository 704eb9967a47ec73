import java.math.BigInteger;

/** Bounds of SEEN, KNEW, THE SEED and DRINKERS (terms, part 3) and of promises 23 to 27, sentence by sentence. */
public final class KnownBoundsTest {
    private static final long TIMES = 6364136223846793005L;
    private static final long MORE = 1442695040888963407L;
    /** Question q costs q and 1, deed d wins d and 1; one thing worth 9 grows with the day. */
    private static final String EIGHT_CHOICES = "ET910T192Q0110Q0210Q0310Q0410D01100D01200D01300D01400";
    private static final Check C = new Check();

    public static void main(String[] args) {
        sixSightsAtMost();
        seeIsRefused();
        unseeAtBothEnds();
        knewAtBothEnds();
        knewOfNone();
        knewIsBad();
        wonByTheAnswerAlone();
        deedsThatAreNotAnyMore();
        seenStays();
        seedIsAnyLong();
        seedWraps();
        upper31BitsBy8();
        onlyIfItCanBe();
        aDayEachTime();
        drinkersAreBad();
        nothingChangesButTheSeed();
        C.end();
    }

    private static void knew(EyeDrink x, String when, int many, int least, int inAll) {
        C.due(when + ": knew(0)", x.knew(0), many);
        C.due(when + ": knew(1)", x.knew(1), least);
        C.due(when + ": knew(2)", x.knew(2), inAll);
    }

    /** "6 such at most, none at first", "SEEN: how many there are", "FULL: 6". */
    private static void sixSightsAtMost() {
        EyeDrink x = Check.wellOf("ET900Q0110D01900");
        C.due("none at first", x.about(8), 0);
        for (int i = 1; i <= 6; i++) {
            C.due("see " + i, x.see(0, true), i);
        }
        C.due("one more, done", x.see(0, true), EyeDrink.FULL);
        C.due("one more, not done", x.see(0, false), EyeDrink.FULL);
        C.due("seen", x.about(8), 6);
        knew(x, "the refused ones are not looked at", 1, 1, 1);
        Check.tell(x, "E");
        x.well();
        C.due("seen", x.about(8), 6);
        C.due("unsee", x.unsee(), 6);
    }

    /** "UNKNOWN; FULL: 6.": of several what is told first. */
    private static void seeIsRefused() {
        C.knownToTheLast("see", "ET900Q0110", "D01100", (x, deed) -> x.see(deed, true), 1);
        C.knownToTheLast("see not", "ET900Q0110", "D01100", (x, deed) -> x.see(deed, false), 1);
        EyeDrink y = Check.wellOf("ET900Q0110D01900");
        int[] off = {-1, 1, 4, 32, Integer.MIN_VALUE, Integer.MAX_VALUE};
        for (int i = 0; i <= 6; i++) {
            for (int deed : off) {
                C.due("see(" + deed + ") with " + i, y.see(deed, i % 2 == 0), EyeDrink.UNKNOWN);
            }
            C.due("see(0) with " + i, y.see(0, true), i == 6 ? EyeDrink.FULL : i + 1);
        }
    }

    /** "Nothing is SEEN: how much there was." */
    private static void unseeAtBothEnds() {
        EyeDrink x = Check.wellOf("ET900Q0110D01900");
        for (int n = 0; n <= 6; n++) {
            for (int i = 0; i < n; i++) {
                x.see(0, false);
            }
            C.due("unsee of " + n, x.unsee(), n);
            C.due("seen", x.about(8), 0);
            knew(x, "nothing is looked at", 2, 0, 0);
        }
        C.due("unsee of nothing", x.unsee(), 0);
    }

    /** "ways in which answers of all QUESTIONS may be (bits: 1) ..: how many; the least; which are 1 in all". */
    private static void knewAtBothEnds() {
        knew(new EyeDrink(), "no question", 1, 0, 0);
        for (int n = 0; n <= 4; n++) {
            EyeDrink x = Check.wellOf("ET900" + "Q0110".repeat(n));
            knew(x, n + " questions, nothing seen", 1 << n, 0, 0);
        }
        EyeDrink y = Check.wellOf("ET900Q0110Q0110Q0110Q0110D01100D11100D21100D31100");
        for (int way = 0; way <= 15; way++) {
            for (int q = 3; q >= 0; q--) {
                y.see(q, (way >> q & 1) == 1);
                int bits = way >> q << q;
                knew(y, "way " + way + " down to " + q, 1 << q, bits, bits);
            }
            y.unsee();
        }
    }

    /** "NONE (of 1, 2): there are none." */
    private static void knewOfNone() {
        EyeDrink x = Check.wellOf("ET900Q0110Q0110D01100D11100");
        x.see(1, true);
        x.see(0, true);
        x.see(0, false);
        knew(x, "done and not done", 0, EyeDrink.NONE, EyeDrink.NONE);
        x.unsee();
        EyeDrink y = Check.wellOf("ET900Q0110D01100D00100");
        y.see(0, false);
        y.see(1, false);
        knew(y, "one of the two would have won", 0, EyeDrink.NONE, EyeDrink.NONE);
        y.unsee();
        // the last of six sights is looked at as the first one is
        for (int i = 0; i < 5; i++) {
            y.see(0, true);
        }
        knew(y, "five alike", 1, 1, 1);
        y.see(1, true);
        knew(y, "the sixth against them", 0, EyeDrink.NONE, EyeDrink.NONE);
    }

    /** "how many (what = 0), the least (1), which are 1 in all (2) .. BAD." */
    private static void knewIsBad() {
        int[] off = {-1, 3, -9, 4, Integer.MIN_VALUE, Integer.MAX_VALUE};
        EyeDrink x = Check.wellOf("ET900Q0110D01100D00100");
        for (int what : off) {
            C.due("knew(" + what + ")", x.knew(what), EyeDrink.BAD);
        }
        x.see(0, true);
        x.see(1, true);
        for (int what : off) {
            C.due("knew(" + what + ") of none", x.knew(what), EyeDrink.BAD);
        }
    }

    /** "each DEED that was SEEN done would have won": by its answer, though it wins 0; what is KNOWN is not looked at. */
    private static void wonByTheAnswerAlone() {
        for (int v = 0; v <= 9; v += 9) {
            EyeDrink x = Check.wellOf("ET900Q0110Q0100D00" + v + "00D11" + v + "09");
            x.drink(0);
            x.drink(1);
            x.see(0, true);
            knew(x, v + " won, answer 0 of question 0", 2, 0, 0);
            x.see(1, true);
            knew(x, v + " won, answer 1 of question 1", 1, 2, 2);
            C.due("none was done", x.about(5), 0);
        }
    }

    /** "(of DEEDS that there are not any more nothing is looked at)": till there are such ones again. */
    private static void deedsThatAreNotAnyMore() {
        EyeDrink x = Check.wellOf("ET900Q0110D01100D01100D01100D01100");
        x.see(3, true);
        x.see(2, false);
        knew(x, "four deeds", 0, EyeDrink.NONE, EyeDrink.NONE);
        Check.tell(x, "ET900Q0110D01100D01100D01100");
        x.well();
        knew(x, "deed 3 is not any more", 1, 0, 0);
        Check.tell(x, "ET900Q0110D01100D01100");
        x.well();
        knew(x, "deed 2 is not any more", 2, 0, 0);
        C.due("they are still counted", x.about(8), 2);
        C.due("one more", x.see(1, true), 3);
        Check.tell(x, "ET900Q0110D01100D01100D01100D00100");
        x.well();
        knew(x, "deeds 2 and 3 are again, as they are now", 0, EyeDrink.NONE, EyeDrink.NONE);
        C.due("unsee", x.unsee(), 3);
        x.see(3, true);
        knew(x, "deed 3 wants another answer now", 1, 0, 0);
    }

    /** SEEN is no ACT and is not kept in SLOTS: neither undo nor again changes it. */
    private static void seenStays() {
        EyeDrink x = Check.wellOf("ET900Q0110D01100");
        x.day();
        x.see(0, true);
        C.due("undo", x.undo(), 0);
        C.due("seen behind undo", x.about(8), 1);
        x.keep(0);
        x.see(0, true);
        x.again(0);
        C.due("seen behind again", x.about(8), 2);
        C.due("undo", x.undo(), EyeDrink.LATE);
    }

    /** "THE SEED is v: what it was.", "(THE SEED, a long; 0 at first)". */
    private static void seedIsAnyLong() {
        EyeDrink x = new EyeDrink();
        long[] some = {0, Long.MAX_VALUE, Long.MIN_VALUE, -1, 1, 1L << 32, -9, 0};
        long was = 0;
        for (long v : some) {
            C.due("seed(" + v + ")", x.seed(v), was);
            was = v;
        }
        x.seed(Long.MIN_VALUE);
        x.day();
        x.undo();
        x.keep(0);
        x.again(0);
        Check.tell(x, "E");
        x.well();
        C.due("undo, again, well leave it", x.seed(0), Long.MIN_VALUE);
    }

    private static long wrapped(BigInteger x) {
        return x.multiply(BigInteger.valueOf(TIMES)).add(BigInteger.valueOf(MORE)).longValue();
    }

    /** "x becomes x times 6364136223846793005 and 1442695040888963407 (64 bits, wrapping)". */
    private static void seedWraps() {
        EyeDrink x = new EyeDrink();
        long[] some = {0, 1, -1, Long.MAX_VALUE, Long.MIN_VALUE, Long.MAX_VALUE - 1, 1L << 62, -(1L << 33)};
        for (long v : some) {
            x.seed(v);
            x.drinkers(1);
            long next = wrapped(BigInteger.valueOf(v));
            C.due("one behind " + v, x.seed(next), next);
            x.drinkers(29);
            for (int i = 0; i < 29; i++) {
                next = wrapped(BigInteger.valueOf(next));
            }
            C.due("thirty behind " + v, x.seed(v), next);
            x.drinkers(30);
            C.due("thirty at once behind " + v, x.seed(0), next);
        }
    }

    /** The seed behind which x comes: the multiplier is odd, so one can go back. */
    private static long seedAheadOf(long x) {
        long inverse = TIMES;
        for (int i = 0; i < 6; i++) {
            inverse *= 2 - TIMES * inverse;
        }
        return (x - MORE) * inverse;
    }

    /**
     * "what is left of its upper 31 bits by 8: 0 .. 3 that QUESTION is DRUNK, 4 .. 7 that DEED (less 4) is
     * DONE": with all other bits 0 and 1, so also when x is below 0.
     */
    private static void upper31BitsBy8() {
        long[] others = {0, (1L << 33) - 1, -1L << 36, ~(7L << 33), 1L << 36, 1L << 63, 1L << 32};
        for (int choice = 0; choice <= 7; choice++) {
            for (long rest : others) {
                long next = rest | (long) choice << 33;
                EyeDrink x = Check.wellOf(EIGHT_CHOICES);
                x.seed(seedAheadOf(next));
                int more = choice < 4 ? -(choice + 1) : choice - 3;
                C.due("choice " + choice + " by " + next, x.drinkers(1), 1009 + 18 + more);
                C.due("the seed", x.seed(0), next);
            }
        }
    }

    private static void choose(EyeDrink x, String name, int choice, int want) {
        x.seed(seedAheadOf((long) choice << 33));
        C.due(name + ": choice " + choice, x.drinkers(1), want);
    }

    /** "that QUESTION is DRUNK .. that DEED is DONE, if it can be": else only the day goes by. */
    private static void onlyIfItCanBe() {
        for (int choice = 0; choice <= 7; choice++) {
            choose(new EyeDrink(), "nothing", choice, 1000);
            choose(Check.wellOf("ET192"), "no question, no deed", choice, 1018);
            EyeDrink over = Check.wellOf("ET510T192Q0110Q0110Q0110Q0110D01100D01100D01100D01100");
            for (int i = 0; i < 4; i++) {
                over.drink(i);
                over.act(i);
            }
            choose(over, "all is over", choice, 1000 + 1 + 18 + 4);
            EyeDrink few = Check.wellOf("ET110T192Q0210Q0110Q0210Q0110D01502D01501D01502D01501");
            int more = choice % 2 == 0 ? 0 : choice < 4 ? -1 : 5 - 1;
            choose(few, "not enough or just enough", choice, 1019 + more);
        }
        EyeDrink few = Check.wellOf("ET110T192Q0110D00501D01501");
        choose(few, "there is no question 1", 1, 1019);
        choose(few, "deed 0 loses, and takes one", 4, 1018 - 5);
        choose(few, "deed 1 wins, and takes one", 5, 1018 + 5);
        choose(few, "there is no deed 2", 6, 1019);
    }

    /** "m times (1 .. 30) .. then a DAY goes by: ESTATE at last." */
    private static void aDayEachTime() {
        for (int m = 1; m <= 30; m++) {
            EyeDrink x = Check.wellOf("ET192");
            C.due("growing to nine in " + m, x.drinkers(m), 1000 + 9 * Math.min(9, 1 + m));
            EyeDrink lent = Check.wellOf("ET991Q0910");
            lent.drink(0);
            C.due("back as the second day ends, " + m, lent.drinkers(m), m == 1 ? 1000 : 1081);
        }
    }

    /** "m times (1 .. 30)", "BAD: m." */
    private static void drinkersAreBad() {
        EyeDrink x = Check.wellOf(EIGHT_CHOICES);
        x.seed(77);
        int[] off = {0, 31, -1, 32, -30, Integer.MIN_VALUE, Integer.MAX_VALUE};
        for (int m : off) {
            C.due("drinkers(" + m + ")", x.drinkers(m), EyeDrink.BAD);
            C.due("the seed stays", x.seed(77), 77);
        }
        C.holds("drinkers(1)", x.drinkers(1) > 0);
        C.holds("drinkers(30)", x.drinkers(30) > 0);
    }

    /** "(Nothing changes but THE SEED.)" */
    private static void nothingChangesButTheSeed() {
        for (int i = 1; i <= 30; i += 29) {
            int m = i;
            Twins.unchangedBy(C, "drinkers(" + m + ")", Twins::busy, x -> {
                long before = x.seed(8);
                int estate = x.drinkers(m);
                C.holds("the seed changes", x.seed(before) != before);
                return estate;
            });
        }
        Twins.unchangedBy(C, "knew", Twins::busy, x -> x.knew(2));
    }
}
