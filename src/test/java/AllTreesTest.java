import java.util.ArrayList;
import java.util.HashSet;
import java.util.List;
import java.util.Random;
import java.util.Set;

/**
 * TREES as the document says them: every TREE is made, and told by the ESTATE at its end for each way in
 * which the open answers may be; "BEST MEAN, BEST WORST: the greatest of any TREE". So nothing here is
 * worked out from the last deed back.
 */
public final class AllTreesTest {
    private static final int WELLS = 200;
    private static final int LOOKS = 4;
    /** The best tree asks question 1 behind question 0 alone, so that barring it is seen: seldom found by chance. */
    private static final String ASKED_LATER = "ET100T100T210Q0105Q2205D01511D00110D11511D10511";
    private static final Check C = new Check();

    private final EyeDrink x;
    /** What thing, question and deed tell of each, by their what: read once, as an object has 512 calls. */
    private final int[][] things;
    private final int[][] questions;
    private final int[][] deeds;
    private final int won;
    /** Ways in which all answers may be, as far as they are not known now. */
    private final List<Integer> open = new ArrayList<>();
    /** Never drunk; -1: none is barred. */
    private int barred = -1;

    private AllTreesTest(EyeDrink x) {
        this.x = x;
        things = new int[x.about(0)][5];
        questions = new int[x.about(1)][4];
        deeds = new int[x.about(2)][6];
        for (int what = 0; what < 6; what++) {
            for (int t = 0; t < things.length && what < 5; t++) {
                things[t][what] = x.thing(t, what);
            }
            for (int q = 0; q < questions.length && what < 4; q++) {
                questions[q][what] = x.question(q, what);
            }
            for (int d = 0; d < deeds.length; d++) {
                deeds[d][what] = x.deed(d, what);
            }
        }
        won = x.about(6) - 1000 - worthOf(thereNow());
        for (int world = 0; world < 1 << questions.length; world++) {
            if (mayBe(world)) {
                open.add(world);
            }
        }
    }

    public static void main(String[] args) {
        new AllTreesTest(Check.wellOf(ASKED_LATER)).look(ASKED_LATER);
        for (int run = 0; run < WELLS && C.clean(); run++) {
            Random random = new Random(run);
            String text = someWell(random);
            EyeDrink x = Check.wellOf(text);
            StringBuilder name = new StringBuilder(text);
            for (int i = 0; i < LOOKS; i++) {
                new AllTreesTest(x).look(name.toString());
                name.append(step(x, random));
            }
        }
        C.end();
    }

    /** Few parts, as trees are many: the more questions, the fewer deeds. */
    private static String someWell(Random random) {
        int things = 1 + random.nextInt(2);
        int questions = 1 + random.nextInt(3);
        int deeds = random.nextInt(questions == 3 ? 3 : 4);
        StringBuilder text = new StringBuilder("E");
        for (int t = 0; t < things; t++) {
            text.append('T').append(1 + random.nextInt(9)).append(random.nextInt(4)).append(random.nextInt(4));
        }
        for (int q = 0; q < questions; q++) {
            text.append('Q').append(random.nextInt(things)).append(1 + random.nextInt(3)).append(random.nextInt(2))
                    .append(random.nextInt(10));
        }
        for (int d = 0; d < deeds; d++) {
            text.append('D').append(random.nextInt(questions)).append(random.nextInt(2)).append(random.nextInt(10))
                    .append(random.nextInt(things)).append(random.nextInt(4));
        }
        return text.toString();
    }

    private static String step(EyeDrink x, Random random) {
        int i = random.nextInt(3);
        switch (random.nextInt(3)) {
            case 0: return ", drink(" + i + "): " + x.drink(i);
            case 1: return ", act(" + i + "): " + x.act(i);
            default: return ", day(): " + x.day();
        }
    }

    private void look(String name) {
        int known = x.about(4);
        int done = x.about(5);
        List<Set<List<Integer>>> byFirst = new ArrayList<>();
        for (int first = 0; first <= 8; first++) {
            byFirst.add(treesThatBegin(first, open, thereNow(), known, done));
        }
        lookAtGreatest(name + ": mean", byFirst, true, x.mean(0), x.mean(1));
        lookAtGreatest(name + ": worst", byFirst, false, x.worst(0), x.worst(1));
        int never = 0;
        for (int q = 0; q < questions.length; q++) {
            Set<List<Integer>> behind = byFirst.get(1 + q);
            if (!behind.isEmpty()) {
                barred = q;
                long less = greatest(trees(open, thereNow(), known, done), false) - greatest(behind, false);
                barred = -1;
                C.due(name + ": regret(" + q + ")", x.regret(q), Math.max(0, less));
                never += less <= 0 ? 1 << q : 0;
            }
        }
        C.due(name + ": never()", x.never(), never);
    }

    /** "by which the greatest is still to be had: the least such one." */
    private void lookAtGreatest(String name, List<Set<List<Integer>>> byFirst, boolean mean, int best, int first) {
        long most = -1;
        int least = -1;
        for (int i = 0; i <= 8; i++) {
            long greatest = greatest(byFirst.get(i), mean);
            if (greatest > most) {
                most = greatest;
                least = i;
            }
        }
        C.due(name + "(0)", best, most);
        C.due(name + "(1)", first, least);
    }

    private int[] thereNow() {
        int[] there = new int[things.length];
        for (int t = 0; t < things.length; t++) {
            there[t] = things[t][3];
        }
        return there;
    }

    private boolean mayBe(int world) {
        for (int q = 0; q < questions.length; q++) {
            int answer = questions[q][3];
            if (answer != EyeDrink.NONE && answer != (world >> q & 1)) {
                return false;
            }
        }
        return true;
    }

    /** How likely a way is, in parts of ten to the power of how many questions are not known. */
    private long weight(int world) {
        long weight = 1;
        for (int[] question : questions) {
            int one = world & 1;
            world >>= 1;
            if (question[3] == EyeDrink.NONE) {
                weight *= one == 1 ? question[2] : 10 - question[2];
            }
        }
        return weight;
    }

    /** Of trees that are told for all open ways; -1: there is no tree. */
    private long greatest(Set<List<Integer>> trees, boolean mean) {
        long most = -1;
        for (List<Integer> tree : trees) {
            long sum = 0;
            long least = Long.MAX_VALUE;
            for (int i = 0; i < tree.size(); i++) {
                // "1 and how many": the mean is told in tenths of what weights are told in
                sum += 10 * weight(open.get(i)) * tree.get(i);
                least = Math.min(least, tree.get(i));
            }
            most = Math.max(most, mean ? sum : least);
        }
        return most;
    }

    private int worthOf(int[] there) {
        int worth = 0;
        for (int t = 0; t < things.length; t++) {
            boolean spoilt = things[t][2] == 3 && there[t] < things[t][0];
            worth += spoilt ? 0 : there[t] * things[t][1];
        }
        return worth;
    }

    private Set<List<Integer>> trees(List<Integer> worlds, int[] there, int known, int done) {
        Set<List<Integer>> all = new HashSet<>();
        for (int first = 0; first <= 8; first++) {
            all.addAll(treesThatBegin(first, worlds, there, known, done));
        }
        return all;
    }

    /** Each tree that begins so, as its estates at the end, one for each of these ways; none: it can't be. */
    private Set<List<Integer>> treesThatBegin(int first, List<Integer> worlds, int[] there, int known, int done) {
        if (first == 0) {
            return Set.of(ends(worlds, there, done));
        }
        return first <= 4 ? drinking(first - 1, worlds, there, known, done)
                : doing(first - 5, worlds, there, known, done);
    }

    private List<Integer> ends(List<Integer> worlds, int[] there, int done) {
        List<Integer> estates = new ArrayList<>();
        for (int world : worlds) {
            int estate = 1000 + won + worthOf(there);
            for (int d = 0; d < deeds.length; d++) {
                // what was done ahead of the tree is in what was won
                if ((done >> d & 1) == 1 && deeds[d][5] == 0) {
                    boolean wins = (world >> deeds[d][0] & 1) == deeds[d][1];
                    estate += wins ? deeds[d][2] : -deeds[d][2];
                }
            }
            estates.add(estate);
        }
        return estates;
    }

    /** What comes behind a question is chosen by its answer: any tree for 0 goes with any tree for 1. */
    private Set<List<Integer>> drinking(int q, List<Integer> worlds, int[] there, int known, int done) {
        Set<List<Integer>> trees = new HashSet<>();
        if (q >= questions.length || q == barred || (known >> q & 1) == 1) {
            return trees;
        }
        int[] left = without(there, questions[q][0], questions[q][1]);
        if (left == null) {
            return trees;
        }
        List<Integer> zeros = new ArrayList<>();
        List<Integer> ones = new ArrayList<>();
        for (int world : worlds) {
            ((world >> q & 1) == 1 ? ones : zeros).add(world);
        }
        Set<List<Integer>> behindOne = trees(ones, left, known | 1 << q, done);
        for (List<Integer> zero : trees(zeros, left, known | 1 << q, done)) {
            for (List<Integer> one : behindOne) {
                trees.add(joined(q, worlds, zero, one));
            }
        }
        return trees;
    }

    /** The ways keep their order, so those with answer 0 and those with answer 1 are taken up in turn. */
    private static List<Integer> joined(int q, List<Integer> worlds, List<Integer> zero, List<Integer> one) {
        List<Integer> estates = new ArrayList<>(worlds.size());
        int zeros = 0;
        for (int i = 0; i < worlds.size(); i++) {
            boolean isOne = (worlds.get(i) >> q & 1) == 1;
            estates.add(isOne ? one.get(i - zeros) : zero.get(zeros));
            zeros += isOne ? 0 : 1;
        }
        return estates;
    }

    private Set<List<Integer>> doing(int d, List<Integer> worlds, int[] there, int known, int done) {
        if (d >= deeds.length || (done >> d & 1) == 1) {
            return Set.of();
        }
        int[] left = without(there, deeds[d][3], deeds[d][4]);
        return left == null ? Set.of() : trees(worlds, left, known, done | 1 << d);
    }

    /** What is left when so much was given of a thing; null: there is not enough. */
    private static int[] without(int[] there, int thing, int much) {
        int[] left = there.clone();
        left[thing] -= much;
        return left[thing] < 0 ? null : left;
    }
}
