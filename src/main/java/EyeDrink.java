import java.util.Arrays;

/** A well at which one drinks knowing for what one has only so many of. */
public final class EyeDrink {
    public static final int UNKNOWN = -1, BAD = -2, LATE = -3, FULL = -4, NONE = -9;

    /** Things, questions and deeds that a well has at most, each. */
    private static final int MOST = 4;
    private static final int SLOTS = 2;
    private static final int MOST_DRINKERS = 30;
    /** The least row that has more figures than its place here tells. */
    private static final int[] TEN_TO = {1, 10, 100, 1000, 10000, 100000, 1000000};

    private final Text text;
    /** A text is read here first, so that a fault leaves the well as it is. */
    private final Well trial;
    private final Well told;
    private final Stand now;
    private final Stand dream;
    private final Acts acts;
    private final Trees trees;
    private final Sights sights;
    private final Stand[] slots;
    private int keptSlots;
    private long seedNow;

    public EyeDrink() {
        text = new Text();
        trial = new Well();
        told = new Well();
        now = new Stand(told);
        dream = new Stand(told);
        acts = new Acts(told);
        trees = new Trees(told, now);
        sights = new Sights(told);
        slots = new Stand[SLOTS];
        for (int i = 0; i < SLOTS; i++) {
            slots[i] = new Stand(told);
        }
    }

    // ---- the well

    public int write(int letter) {
        if (letter < 0 || letter > 255) {
            return BAD;
        }
        return text.append(letter) ? text.length : FULL;
    }

    public int wipe() {
        int length = text.length;
        text.length = 0;
        return length;
    }

    public int fault() {
        return text.readInto(trial);
    }

    public int well() {
        if (text.readInto(trial) != NONE) {
            return LATE;
        }
        text.readInto(told);
        now.begin();
        acts.count = 0;
        keptSlots = 0;
        return 100 * told.things + 10 * told.questions + told.deeds;
    }

    public int about(int what) {
        switch (what) {
            case 0: return told.things;
            case 1: return told.questions;
            case 2: return told.deeds;
            case 3: return now.days;
            case 4: return now.known;
            case 5: return now.done;
            case 6: return now.estate();
            case 7: return acts.count;
            case 8: return sights.count;
            case 9: return text.length;
            default: return BAD;
        }
    }

    public int thing(int thing, int what) {
        if (thing < 0 || thing >= told.things) {
            return UNKNOWN;
        }
        switch (what) {
            case 0: return told.many[thing];
            case 1: return told.worth[thing];
            case 2: return told.kind[thing];
            case 3: return now.there[thing];
            case 4: return now.away(thing);
            default: return BAD;
        }
    }

    public int question(int question, int what) {
        if (question < 0 || question >= told.questions) {
            return UNKNOWN;
        }
        switch (what) {
            case 0: return told.paidIn[question];
            case 1: return told.price[question];
            case 2: return told.tenths[question];
            case 3: return now.knows(question) ? told.answer(question) : NONE;
            default: return BAD;
        }
    }

    public int deed(int deed, int what) {
        if (deed < 0 || deed >= told.deeds) {
            return UNKNOWN;
        }
        switch (what) {
            case 0: return told.hangsOn[deed];
            case 1: return told.wants[deed];
            case 2: return told.wins[deed];
            case 3: return told.takenFrom[deed];
            case 4: return told.takes[deed];
            case 5: return now.hasDone(deed) ? 1 : 0;
            default: return BAD;
        }
    }

    // ---- acts

    public int drink(int question) {
        int refusal = now.refusalToDrink(question);
        if (refusal != 0) {
            return refusal;
        }
        acts.remember(now);
        now.drinkUp(question);
        return told.answer(question);
    }

    public int act(int deed) {
        int refusal = now.refusalToDo(deed);
        if (refusal != 0) {
            return refusal;
        }
        acts.remember(now);
        now.carryOut(deed);
        return now.estate();
    }

    public int day() {
        acts.remember(now);
        return now.passDay();
    }

    public int undo() {
        if (acts.count == 0) {
            return LATE;
        }
        acts.takeBack(now);
        return acts.count;
    }

    // ---- trees

    public int can(int what) {
        switch (what) {
            case 0: return now.drinkable();
            case 1: return now.doable();
            default: return BAD;
        }
    }

    public int mean(int what) {
        return greatest(true, what);
    }

    public int worst(int what) {
        return greatest(false, what);
    }

    private int greatest(boolean inMean, int what) {
        if (what < 0 || what > 1) {
            return BAD;
        }
        int best = trees.grow(inMean, 0);
        return what == 0 ? best : trees.first();
    }

    public int regret(int question) {
        int refusal = now.refusalToDrink(question);
        if (refusal != 0) {
            return refusal;
        }
        trees.grow(false, 0);
        int behind = trees.behindNow(question);
        int without = trees.grow(false, 1 << question);
        return Math.max(0, without - behind);
    }

    public int never() {
        return trees.unregretted();
    }

    public int shortFor(int set) {
        if (set < 0 || set >= 1 << told.deeds) {
            return BAD;
        }
        return now.lacking(set);
    }

    // ---- prices

    public int partners(int p, int a, int b, int what) {
        if (p < 1 || p > 9 || !isFigure(a) || !isFigure(b) || what < 0 || what > 1) {
            return BAD;
        }
        return what == 0 ? Prices.sharesThatSuit(p, a, b) : Prices.leastShare(p, a, b);
    }

    public int keeper(int n, int row, int what) {
        if (n < 1 || n > 6 || row < 0 || row >= TEN_TO[n] || what < 0 || what > 1) {
            return BAD;
        }
        int price = Prices.bestToAsk(n, row);
        return what == 0 ? price : Prices.brings(price, n, row);
    }

    public int byTurns(int w, int n) {
        if (!isFigure(w) || n < 1 || n > 6) {
            return BAD;
        }
        return Prices.agreedByTurns(w, n);
    }

    private static boolean isFigure(int number) {
        return number >= 0 && number <= 9;
    }

    // ---- what was known

    public int see(int deed, boolean done) {
        if (deed < 0 || deed >= told.deeds) {
            return UNKNOWN;
        }
        return sights.add(deed, done) ? sights.count : FULL;
    }

    public int unsee() {
        int count = sights.count;
        sights.count = 0;
        return count;
    }

    public int knew(int what) {
        switch (what) {
            case 0: return sights.ways();
            case 1: return sights.leastWay();
            case 2: return sights.onesInAllWays();
            default: return BAD;
        }
    }

    public long seed(long v) {
        long before = seedNow;
        seedNow = v;
        return before;
    }

    public int drinkers(int m) {
        if (m < 1 || m > MOST_DRINKERS) {
            return BAD;
        }
        dream.copyFrom(now);
        for (int i = 0; i < m; i++) {
            seedNow = seedNow * 6364136223846793005L + 1442695040888963407L;
            dream.tryChoice((int) (seedNow >>> 33) & 7);
            dream.passDay();
        }
        return dream.estate();
    }

    // ---- slots

    public int keep(int slot) {
        if (slot < 0 || slot >= SLOTS) {
            return UNKNOWN;
        }
        slots[slot].copyFrom(now);
        keptSlots |= 1 << slot;
        return now.estate();
    }

    public int again(int slot) {
        if (slot < 0 || slot >= SLOTS) {
            return UNKNOWN;
        }
        if ((keptSlots >> slot & 1) == 0) {
            return LATE;
        }
        now.copyFrom(slots[slot]);
        acts.count = 0;
        return now.estate();
    }

    /** The bytes that were written, and how a well is read out of them. */
    private static final class Text {
        private static final int LONGEST = 64;
        private static final int NO_PART = 0;
        /** The most figures that stand behind a part's letter. */
        private static final int MOST_FIGURES = 5;

        final int[] bytes = new int[LONGEST];
        final int[] figures = new int[MOST_FIGURES];
        int length;

        boolean append(int letter) {
            if (length >= LONGEST) {
                return false;
            }
            bytes[length] = letter;
            length++;
            return true;
        }

        /** Fills the well as far as the text is sound; answers the fault or NONE. */
        int readInto(Well well) {
            well.clear();
            int part = NO_PART;
            int place = 0;
            for (int i = 0; i < length; i++) {
                if (i == 0) {
                    if (bytes[i] != 'E') {
                        return i;
                    }
                } else if (part == NO_PART) {
                    if (!well.mayBegin(bytes[i])) {
                        return i;
                    }
                    part = bytes[i];
                    place = 0;
                } else {
                    int figure = bytes[i] - '0';
                    if (place >= MOST_FIGURES || figure < Well.lowest(part, place)
                            || figure > well.highest(part, place)) {
                        return i;
                    }
                    figures[place] = figure;
                    place++;
                    if (place == Well.figuresOf(part)) {
                        well.add(part, figures);
                        part = NO_PART;
                    }
                }
            }
            return length == 0 || part != NO_PART ? length : NONE;
        }
    }

    /** What a text told: it does not change while one drinks. */
    private static final class Well {
        private static final int LENT = 1, GROWING = 2, WORTHLESS = 3;

        int things;
        final int[] many = new int[MOST];
        final int[] worth = new int[MOST];
        final int[] kind = new int[MOST];

        int questions;
        final int[] paidIn = new int[MOST];
        final int[] price = new int[MOST];
        final int[] tenths = new int[MOST];
        /** Bits of the questions whose answer is 1. */
        int answers;

        int deeds;
        final int[] hangsOn = new int[MOST];
        final int[] wants = new int[MOST];
        final int[] wins = new int[MOST];
        final int[] takenFrom = new int[MOST];
        final int[] takes = new int[MOST];

        void clear() {
            things = 0;
            questions = 0;
            deeds = 0;
            answers = 0;
        }

        /** A part that could never be ended, as nothing is told ahead for it, may not begin. */
        boolean mayBegin(int letter) {
            switch (letter) {
                case 'T': return things < MOST;
                case 'Q': return questions < MOST && things > 0;
                case 'D': return deeds < MOST && questions > 0;
                default: return false;
            }
        }

        static int figuresOf(int part) {
            switch (part) {
                case 'T': return 3;
                case 'Q': return 4;
                default: return 5;
            }
        }

        static int lowest(int part, int place) {
            boolean howMany = part == 'T' && place == 0;
            boolean itsPrice = part == 'Q' && place == 1;
            return howMany || itsPrice ? 1 : 0;
        }

        int highest(int part, int place) {
            switch (part) {
                case 'T':
                    return place == 2 ? WORTHLESS : 9;
                case 'Q':
                    return place == 0 ? things - 1 : place == 2 ? 1 : 9;
                default:
                    return place == 0 ? questions - 1 : place == 1 ? 1 : place == 3 ? things - 1 : 9;
            }
        }

        void add(int part, int[] figures) {
            if (!mayBegin(part) || figures.length < figuresOf(part)) {
                return;
            }
            switch (part) {
                case 'T': addThing(figures); break;
                case 'Q': addQuestion(figures); break;
                default: addDeed(figures); break;
            }
        }

        private void addThing(int[] figures) {
            many[things] = figures[0];
            worth[things] = figures[1];
            kind[things] = figures[2];
            things++;
        }

        private void addQuestion(int[] figures) {
            paidIn[questions] = figures[0];
            price[questions] = figures[1];
            answers |= figures[2] << questions;
            tenths[questions] = figures[3];
            questions++;
        }

        private void addDeed(int[] figures) {
            hangsOn[deeds] = figures[0];
            wants[deeds] = figures[1];
            wins[deeds] = figures[2];
            takenFrom[deeds] = figures[3];
            takes[deeds] = figures[4];
            deeds++;
        }

        int answer(int question) {
            return answers >> question & 1;
        }

        /** What a deed brings if the answer of its question is 1; if it is 0, it brings as much less. */
        int swing(int deed) {
            return wants[deed] == 1 ? wins[deed] : -wins[deed];
        }

        int worthOf(int[] there) {
            int sum = 0;
            for (int t = 0; t < things; t++) {
                if (kind[t] != WORTHLESS || there[t] >= many[t]) {
                    sum += worth[t] * there[t];
                }
            }
            return sum;
        }
    }

    /** How things stand: what is there, given, known, done and won by a day. */
    private static final class Stand {
        private static final int MOST_THERE = 9;
        private static final int ESTATE_AT_LEAST = 1000;

        final Well well;
        final int[] there = new int[MOST];
        final int[] givenToday = new int[MOST];
        final int[] givenBefore = new int[MOST];
        int known;
        int done;
        int days;
        int won;

        Stand(Well well) {
            this.well = well;
        }

        void begin() {
            System.arraycopy(well.many, 0, there, 0, MOST);
            Arrays.fill(givenToday, 0);
            Arrays.fill(givenBefore, 0);
            known = 0;
            done = 0;
            days = 0;
            won = 0;
        }

        void copyFrom(Stand other) {
            System.arraycopy(other.there, 0, there, 0, MOST);
            System.arraycopy(other.givenToday, 0, givenToday, 0, MOST);
            System.arraycopy(other.givenBefore, 0, givenBefore, 0, MOST);
            known = other.known;
            done = other.done;
            days = other.days;
            won = other.won;
        }

        boolean knows(int question) {
            return (known >> question & 1) == 1;
        }

        boolean hasDone(int deed) {
            return (done >> deed & 1) == 1;
        }

        int away(int thing) {
            return givenToday[thing] + givenBefore[thing];
        }

        int estate() {
            return base() + well.worthOf(there);
        }

        /** The estate without its things. */
        int base() {
            return ESTATE_AT_LEAST + won;
        }

        /** Why a question can't be drunk now; 0: it can. */
        int refusalToDrink(int question) {
            if (question < 0 || question >= well.questions) {
                return UNKNOWN;
            }
            if (knows(question)) {
                return LATE;
            }
            return there[well.paidIn[question]] < well.price[question] ? FULL : 0;
        }

        /** Why a deed can't be done now; 0: it can. */
        int refusalToDo(int deed) {
            if (deed < 0 || deed >= well.deeds) {
                return UNKNOWN;
            }
            if (hasDone(deed)) {
                return LATE;
            }
            return there[well.takenFrom[deed]] < well.takes[deed] ? FULL : 0;
        }

        int drinkable() {
            int bits = 0;
            for (int q = 0; q < well.questions; q++) {
                if (refusalToDrink(q) == 0) {
                    bits |= 1 << q;
                }
            }
            return bits;
        }

        int doable() {
            int bits = 0;
            for (int d = 0; d < well.deeds; d++) {
                if (refusalToDo(d) == 0) {
                    bits |= 1 << d;
                }
            }
            return bits;
        }

        void drinkUp(int question) {
            give(well.paidIn[question], well.price[question]);
            known |= 1 << question;
        }

        void carryOut(int deed) {
            give(well.takenFrom[deed], well.takes[deed]);
            done |= 1 << deed;
            int swing = well.swing(deed);
            won += well.answer(well.hangsOn[deed]) == 1 ? swing : -swing;
        }

        private void give(int thing, int much) {
            there[thing] -= much;
            if (well.kind[thing] == Well.LENT) {
                givenToday[thing] += much;
            }
        }

        /** A drinker's choice: 0 .. 3 a question, 4 .. 7 a deed; what can't be is left out. */
        void tryChoice(int choice) {
            if (choice < MOST) {
                if (refusalToDrink(choice) == 0) {
                    drinkUp(choice);
                }
            } else if (refusalToDo(choice - MOST) == 0) {
                carryOut(choice - MOST);
            }
        }

        /** Answers how many things came. */
        int passDay() {
            int came = 0;
            for (int t = 0; t < well.things; t++) {
                int more = well.kind[t] == Well.GROWING ? 1 : givenBefore[t];
                more = Math.min(more, MOST_THERE - there[t]);
                there[t] += more;
                came += more;
                givenBefore[t] = givenToday[t];
                givenToday[t] = 0;
            }
            days++;
            return came;
        }

        /** Things, as bits, of which there are too few for all undone deeds of the set. */
        int lacking(int set) {
            int bits = 0;
            for (int t = 0; t < well.things; t++) {
                int needed = 0;
                for (int d = 0; d < well.deeds; d++) {
                    if ((set >> d & 1) == 1 && !hasDone(d) && well.takenFrom[d] == t) {
                        needed += well.takes[d];
                    }
                }
                if (needed > there[t]) {
                    bits |= 1 << t;
                }
            }
            return bits;
        }
    }

    /** How things stood ahead of each of the last acts, so that these can be undone. */
    private static final class Acts {
        private static final int MOST_ACTS = 14;

        final Stand[] ahead = new Stand[MOST_ACTS];
        int count;

        Acts(Well well) {
            for (int i = 0; i < MOST_ACTS; i++) {
                ahead[i] = new Stand(well);
            }
        }

        void remember(Stand stand) {
            if (count == MOST_ACTS) {
                forgetFirst();
            }
            ahead[count].copyFrom(stand);
            count++;
        }

        /** The first one's object goes to the end, to be filled again. */
        private void forgetFirst() {
            Stand first = ahead[0];
            for (int i = 1; i < MOST_ACTS; i++) {
                ahead[i - 1] = ahead[i];
            }
            ahead[MOST_ACTS - 1] = first;
            count--;
        }

        void takeBack(Stand stand) {
            if (count > 0) {
                count--;
                stand.copyFrom(ahead[count]);
            }
        }
    }

    /**
     * What is best from now on, if no day goes by. A place in a tree is told by
     * which questions are known there, which of these have the answer 1, and which
     * deeds are done: how one came there does not matter.
     */
    private static final class Trees {
        /** The sum of 3 to the power of each bit: a known set and its ones make one number below 81. */
        private static final int[] IN_THREES = {0, 1, 3, 4, 9, 10, 12, 13, 27, 28, 30, 31, 36, 37, 39, 40};
        private static final int PLACES = 81 * 16;
        /** Each estate is more than this, so it never is the greatest. */
        private static final int OUT_OF_REACH = 0;

        final Well well;
        final Stand now;
        final int[] greatest = new int[PLACES];
        final int[] left = new int[MOST];
        final int[] swings = new int[MOST];
        final int[] worstBehind = new int[MOST];
        boolean inMean;
        int barred;
        int base;

        Trees(Well well, Stand now) {
            this.well = well;
            this.now = now;
        }

        /**
         * Fills in what can be had at each place, from the last ones back, if barred questions
         * (bits) are never drunk; answers what can be had now.
         */
        int grow(boolean inMean, int barred) {
            this.inMean = inMean;
            this.barred = barred;
            for (int known = (1 << well.questions) - 1; known >= now.known; known--) {
                if ((known & now.known) == now.known && (known & barred) == 0) {
                    growWith(known);
                }
            }
            return greatest[place(now.known, onesNow(), now.done)];
        }

        private void growWith(int known) {
            int onesNow = onesNow();
            for (int done = (1 << well.deeds) - 1; done >= now.done; done--) {
                if ((done & now.done) != now.done) {
                    continue;
                }
                boolean inReach = layOut(known & ~now.known, done & ~now.done);
                for (int ones = onesNow; ones <= known; ones++) {
                    if ((ones & ~known) == 0 && (ones & now.known) == onesNow) {
                        greatest[place(known, ones, done)] = inReach ? most(known, ones, done) : OUT_OF_REACH;
                    }
                }
            }
        }

        private int onesNow() {
            return well.answers & now.known;
        }

        private static int place(int known, int ones, int done) {
            return (IN_THREES[known & 15] + IN_THREES[ones & known & 15]) * 16 + (done & 15);
        }

        /**
         * Works out what is left and what hangs on each question's answer, when these were
         * drunk and done in the tree; false: there is not enough for all of them.
         */
        private boolean layOut(int drunk, int done) {
            System.arraycopy(now.there, 0, left, 0, MOST);
            Arrays.fill(swings, 0);
            for (int q = 0; q < well.questions; q++) {
                if ((drunk >> q & 1) == 1) {
                    left[well.paidIn[q]] -= well.price[q];
                }
            }
            for (int d = 0; d < well.deeds; d++) {
                if ((done >> d & 1) == 1) {
                    left[well.takenFrom[d]] -= well.takes[d];
                    swings[well.hangsOn[d]] += well.swing(d);
                }
            }
            for (int t = 0; t < well.things; t++) {
                if (left[t] < 0) {
                    return false;
                }
            }
            base = now.base() + well.worthOf(left);
            return true;
        }

        private int most(int known, int ones, int done) {
            int most = ending(known, ones);
            for (int q = 0; q < well.questions; q++) {
                if (((known | barred) >> q & 1) == 0) {
                    most = Math.max(most, behind(q, known, ones, done));
                }
            }
            for (int d = 0; d < well.deeds; d++) {
                if ((done >> d & 1) == 0) {
                    most = Math.max(most, greatest[place(known, ones, done | 1 << d)]);
                }
            }
            return most;
        }

        /**
         * What one has if it ends at the place that was laid out last. Deeds are weighed only
         * here, as two of them may hang on one open answer and then can't both go wrong.
         */
        private int ending(int known, int ones) {
            int sure = base;
            int open = 0;
            int parts = 1;
            for (int q = 0; q < well.questions; q++) {
                int swing = swings[q];
                if ((known >> q & 1) == 1) {
                    sure += (ones >> q & 1) == 1 ? swing : -swing;
                } else {
                    open += inMean ? swing * (2 * well.tenths[q] - 10) : -Math.abs(swing);
                    parts *= 10;
                }
            }
            return inMean ? (10 * sure + open) * parts : sure + open;
        }

        /** In the mean, parts are ten times as fine ahead of a question as behind it. */
        private int behind(int question, int known, int ones, int done) {
            int bit = 1 << question;
            int zero = greatest[place(known | bit, ones, done)];
            int one = greatest[place(known | bit, ones | bit, done)];
            int tenths = well.tenths[question];
            return inMean ? zero * (10 - tenths) + one * tenths : Math.min(zero, one);
        }

        int behindNow(int question) {
            return behind(question, now.known, onesNow(), now.done);
        }

        /** The first step to what grow() answered last. */
        int first() {
            int ones = onesNow();
            int most = greatest[place(now.known, ones, now.done)];
            layOut(0, 0);
            if (ending(now.known, ones) == most) {
                return 0;
            }
            for (int q = 0; q < well.questions; q++) {
                if (!now.knows(q) && behindNow(q) == most) {
                    return 1 + q;
                }
            }
            for (int d = 0; d < well.deeds; d++) {
                if (!now.hasDone(d) && greatest[place(now.known, ones, now.done | 1 << d)] == most) {
                    return 1 + MOST + d;
                }
            }
            return 0;
        }

        /** Questions, as bits, behind which the worst is no less than if they could never be drunk. */
        int unregretted() {
            int drinkable = now.drinkable();
            grow(false, 0);
            // Barring a question fills the places anew, so all of these are looked up ahead of it.
            for (int q = 0; q < well.questions; q++) {
                worstBehind[q] = (drinkable >> q & 1) == 1 ? behindNow(q) : OUT_OF_REACH;
            }
            int bits = 0;
            for (int q = 0; q < well.questions; q++) {
                if ((drinkable >> q & 1) == 1 && grow(false, 1 << q) <= worstBehind[q]) {
                    bits |= 1 << q;
                }
            }
            return bits;
        }
    }

    /** Prices that partners share, that a keeper asks, that are named by turns. */
    private static final class Prices {
        private static final int HIGHEST = 9;

        /** Whether neither pays too much if the one pays so many tenths. */
        private static boolean suits(int share, int price, int toOne, int toOther) {
            int pays = (price * share + 9) / 10;
            return pays <= toOne && price - pays <= toOther;
        }

        static int sharesThatSuit(int price, int toOne, int toOther) {
            int count = 0;
            for (int share = 0; share <= 10; share++) {
                if (suits(share, price, toOne, toOther)) {
                    count++;
                }
            }
            return count;
        }

        static int leastShare(int price, int toOne, int toOther) {
            for (int share = 0; share <= 10; share++) {
                if (suits(share, price, toOne, toOther)) {
                    return share;
                }
            }
            return NONE;
        }

        static int brings(int price, int n, int row) {
            int sum = 0;
            int rest = row;
            for (int i = 0; i < n; i++) {
                if (rest % 10 >= price) {
                    sum += price;
                }
                rest /= 10;
            }
            return sum;
        }

        static int bestToAsk(int n, int row) {
            int best = 1;
            for (int price = 2; price <= HIGHEST; price++) {
                if (brings(price, n, row) > brings(best, n, row)) {
                    best = price;
                }
            }
            return best;
        }

        static int agreedByTurns(int w, int n) {
            int keeperHas = 0;
            int drinkerHas = 0;
            for (int turn = n - 1; turn >= 0; turn--) {
                int worth = Math.max(0, w - turn);
                int price = turn % 2 == 0
                        ? keeperNames(worth, keeperHas, drinkerHas)
                        : drinkerNames(worth, keeperHas, drinkerHas);
                if (price != NONE) {
                    keeperHas = price;
                    drinkerHas = worth - price;
                }
            }
            // The keeper has the price at which it ends, whichever turn that is.
            return keeperHas;
        }

        /** The price that is taken, when the next turn would leave them these; NONE: the next turn comes. */
        private static int keeperNames(int worth, int keeperNext, int drinkerNext) {
            for (int price = HIGHEST; price >= keeperNext; price--) {
                if (worth - price >= drinkerNext) {
                    return price;
                }
            }
            return NONE;
        }

        private static int drinkerNames(int worth, int keeperNext, int drinkerNext) {
            for (int price = 0; price <= HIGHEST; price++) {
                if (price >= keeperNext) {
                    return worth - price >= drinkerNext ? price : NONE;
                }
            }
            return NONE;
        }
    }

    /** Deeds that were seen done, or not, and which answers must have been known then. */
    private static final class Sights {
        private static final int MOST_SIGHTS = 6;

        final Well well;
        final int[] deed = new int[MOST_SIGHTS];
        final boolean[] done = new boolean[MOST_SIGHTS];
        int count;

        Sights(Well well) {
            this.well = well;
        }

        boolean add(int seenDeed, boolean seenDone) {
            if (count >= MOST_SIGHTS) {
                return false;
            }
            deed[count] = seenDeed;
            done[count] = seenDone;
            count++;
            return true;
        }

        private boolean agree(int way) {
            for (int i = 0; i < count; i++) {
                int d = deed[i];
                // The well may have fewer deeds than when this was seen.
                if (d < well.deeds) {
                    boolean wins = (way >> well.hangsOn[d] & 1) == well.wants[d];
                    if (wins != done[i]) {
                        return false;
                    }
                }
            }
            return true;
        }

        int ways() {
            int ways = 0;
            for (int way = 0; way < 1 << well.questions; way++) {
                if (agree(way)) {
                    ways++;
                }
            }
            return ways;
        }

        int leastWay() {
            for (int way = 0; way < 1 << well.questions; way++) {
                if (agree(way)) {
                    return way;
                }
            }
            return NONE;
        }

        int onesInAllWays() {
            int least = leastWay();
            if (least == NONE) {
                return NONE;
            }
            int ones = least;
            for (int way = least; way < 1 << well.questions; way++) {
                if (agree(way)) {
                    ones &= way;
                }
            }
            return ones;
        }
    }
}
