import java.util.ArrayList;
import java.util.HashMap;
import java.util.List;
import java.util.Map;

/**
 * The document told a second time, by other means than the class: states are copied
 * whole, trees are searched over lists of all answers that may still be.
 */
final class Model {
    static final int UNKNOWN = -1, BAD = -2, LATE = -3, FULL = -4, NONE = -9;

    static final class State {
        int[] there = new int[4];
        List<int[]> lentOut = new ArrayList<>(); // thing, how many, on which day
        boolean[] known = new boolean[4];
        boolean[] done = new boolean[4];
        int day;
        int won;

        State copy() {
            State s = new State();
            s.there = there.clone();
            s.lentOut = new ArrayList<>(lentOut);
            s.known = known.clone();
            s.done = done.clone();
            s.day = day;
            s.won = won;
            return s;
        }
    }

    StringBuilder text = new StringBuilder();
    List<int[]> things = new ArrayList<>();
    List<int[]> questions = new ArrayList<>();
    List<int[]> deeds = new ArrayList<>();
    State now = new State();
    List<State> acts = new ArrayList<>();
    State[] slots = new State[2];
    List<int[]> seen = new ArrayList<>();
    long seed;

    int write(int letter) {
        if (letter < 0 || letter > 255) {
            return BAD;
        }
        if (text.length() == 64) {
            return FULL;
        }
        text.append((char) letter);
        return text.length();
    }

    int wipe() {
        int was = text.length();
        text.setLength(0);
        return was;
    }

    /** Tries each way to go on: a text is a start of a well if some part fits its rest as far as it goes. */
    private int parse(List<int[]> ts, List<int[]> qs, List<int[]> ds) {
        if (text.length() == 0) {
            return 0;
        }
        if (text.charAt(0) != 'E') {
            return 0;
        }
        int at = 1;
        while (at < text.length()) {
            char letter = text.charAt(at);
            String[] sets;
            List<int[]> into;
            if (letter == 'T') {
                into = ts;
                sets = new String[] {"123456789", "0123456789", "0123"};
            } else if (letter == 'Q' && ts.size() > 0) {
                into = qs;
                sets = new String[] {"0123".substring(0, ts.size()), "123456789", "01", "0123456789"};
            } else if (letter == 'D' && qs.size() > 0) {
                into = ds;
                sets = new String[] {"0123".substring(0, qs.size()), "01", "0123456789",
                    "0123".substring(0, ts.size()), "0123456789"};
            } else {
                return at;
            }
            if (into.size() == 4) {
                return at;
            }
            int[] part = new int[sets.length];
            for (int i = 0; i < sets.length; i++) {
                if (at + 1 + i == text.length()) {
                    return text.length();
                }
                if (sets[i].indexOf(text.charAt(at + 1 + i)) < 0) {
                    return at + 1 + i;
                }
                part[i] = text.charAt(at + 1 + i) - 48;
            }
            into.add(part);
            at += 1 + sets.length;
        }
        return NONE;
    }

    int fault() {
        return parse(new ArrayList<>(), new ArrayList<>(), new ArrayList<>());
    }

    int well() {
        List<int[]> ts = new ArrayList<>();
        List<int[]> qs = new ArrayList<>();
        List<int[]> ds = new ArrayList<>();
        if (parse(ts, qs, ds) != NONE) {
            return LATE;
        }
        things = ts;
        questions = qs;
        deeds = ds;
        now = new State();
        for (int t = 0; t < ts.size(); t++) {
            now.there[t] = ts.get(t)[0];
        }
        acts.clear();
        slots = new State[2];
        return Integer.parseInt("" + ts.size() + qs.size() + ds.size());
    }

    private static int bits(boolean[] flags) {
        int bits = 0;
        for (int i = 0; i < 4; i++) {
            bits += flags[i] ? 1 << i : 0;
        }
        return bits;
    }

    int estate(State s) {
        return 1000 + s.won + worth(s.there);
    }

    private int worth(int[] there) {
        int sum = 0;
        for (int t = 0; t < things.size(); t++) {
            int[] thing = things.get(t);
            boolean spoilt = thing[2] == 3 && there[t] < thing[0];
            sum += spoilt ? 0 : thing[1] * there[t];
        }
        return sum;
    }

    int about(int what) {
        int[] all = {things.size(), questions.size(), deeds.size(), now.day, bits(now.known), bits(now.done),
            estate(now), acts.size(), seen.size(), text.length()};
        return what < 0 || what >= all.length ? BAD : all[what];
    }

    int thing(int thing, int what) {
        if (thing < 0 || thing >= things.size()) {
            return UNKNOWN;
        }
        int away = 0;
        for (int[] lent : now.lentOut) {
            away += lent[0] == thing ? lent[1] : 0;
        }
        int[] t = things.get(thing);
        int[] all = {t[0], t[1], t[2], now.there[thing], away};
        return what < 0 || what >= all.length ? BAD : all[what];
    }

    int question(int question, int what) {
        if (question < 0 || question >= questions.size()) {
            return UNKNOWN;
        }
        int[] q = questions.get(question);
        int[] all = {q[0], q[1], q[3], now.known[question] ? q[2] : NONE};
        return what < 0 || what >= all.length ? BAD : all[what];
    }

    int deed(int deed, int what) {
        if (deed < 0 || deed >= deeds.size()) {
            return UNKNOWN;
        }
        int[] d = deeds.get(deed);
        int[] all = {d[0], d[1], d[2], d[3], d[4], now.done[deed] ? 1 : 0};
        return what < 0 || what >= all.length ? BAD : all[what];
    }

    private void give(State s, int thing, int much) {
        s.there[thing] -= much;
        if (things.get(thing)[2] == 1 && much > 0) {
            s.lentOut.add(new int[] {thing, much, s.day});
        }
    }

    private int tryDrink(State s, int question) {
        if (question < 0 || question >= questions.size()) {
            return UNKNOWN;
        }
        int[] q = questions.get(question);
        if (s.known[question]) {
            return LATE;
        }
        if (s.there[q[0]] < q[1]) {
            return FULL;
        }
        give(s, q[0], q[1]);
        s.known[question] = true;
        return q[2];
    }

    private int tryAct(State s, int deed) {
        if (deed < 0 || deed >= deeds.size()) {
            return UNKNOWN;
        }
        int[] d = deeds.get(deed);
        if (s.done[deed]) {
            return LATE;
        }
        if (s.there[d[3]] < d[4]) {
            return FULL;
        }
        give(s, d[3], d[4]);
        s.done[deed] = true;
        s.won += questions.get(d[0])[2] == d[1] ? d[2] : -d[2];
        return estate(s);
    }

    private int passDay(State s) {
        int came = 0;
        List<int[]> still = new ArrayList<>();
        for (int[] lent : s.lentOut) {
            if (lent[2] < s.day) {
                s.there[lent[0]] += lent[1];
                came += lent[1];
            } else {
                still.add(lent);
            }
        }
        s.lentOut = still;
        for (int t = 0; t < things.size(); t++) {
            if (things.get(t)[2] == 2 && s.there[t] < 9) {
                s.there[t]++;
                came++;
            }
        }
        s.day++;
        return came;
    }

    private void push(State before) {
        acts.add(before);
        if (acts.size() > 14) {
            acts.remove(0);
        }
    }

    int drink(int question) {
        State before = now.copy();
        int answer = tryDrink(now, question);
        if (answer >= 0) {
            push(before);
        }
        return answer;
    }

    int act(int deed) {
        State before = now.copy();
        int answer = tryAct(now, deed);
        if (answer >= 0) {
            push(before);
        }
        return answer;
    }

    int day() {
        push(now.copy());
        return passDay(now);
    }

    int undo() {
        if (acts.isEmpty()) {
            return LATE;
        }
        now = acts.remove(acts.size() - 1);
        return acts.size();
    }

    int can(int what) {
        if (what != 0 && what != 1) {
            return BAD;
        }
        int bits = 0;
        for (int i = 0; i < 4; i++) {
            int answer = what == 0 ? tryDrink(now.copy(), i) : tryAct(now.copy(), i);
            bits += answer >= 0 ? 1 << i : 0;
        }
        return bits;
    }

    /** All answers that may be, as those that are known now are as they are. */
    private List<Integer> worlds() {
        List<Integer> worlds = new ArrayList<>();
        for (int world = 0; world < 1 << questions.size(); world++) {
            boolean may = true;
            for (int q = 0; q < questions.size(); q++) {
                may &= !now.known[q] || (world >> q & 1) == questions.get(q)[2];
            }
            if (may) {
                worlds.add(world);
            }
        }
        return worlds;
    }

    private long weight(int world) {
        long weight = 10;
        for (int q = 0; q < questions.size(); q++) {
            if (!now.known[q]) {
                int tenths = questions.get(q)[3];
                weight *= (world >> q & 1) == 1 ? tenths : 10 - tenths;
            }
        }
        return weight;
    }

    private long stop(List<Integer> worlds, int[] there, int done, boolean mean) {
        long sum = 0;
        long least = Long.MAX_VALUE;
        for (int world : worlds) {
            long estate = 1000 + now.won + worth(there);
            for (int d = 0; d < deeds.size(); d++) {
                if ((done >> d & 1) == 1 && !now.done[d]) {
                    int[] deed = deeds.get(d);
                    estate += (world >> deed[0] & 1) == deed[1] ? deed[2] : -deed[2];
                }
            }
            sum += weight(world) * estate;
            least = Math.min(least, estate);
        }
        return mean ? sum : least;
    }

    private long drinkIn(int q, List<Integer> worlds, int[] there, int known, int done, boolean mean, int barred,
            Map<String, Long> memo) {
        int[] question = questions.get(q);
        if ((known >> q & 1) == 1 || there[question[0]] < question[1]) {
            return -1;
        }
        int[] left = there.clone();
        left[question[0]] -= question[1];
        List<Integer> ones = new ArrayList<>();
        List<Integer> zeros = new ArrayList<>();
        for (int world : worlds) {
            ((world >> q & 1) == 1 ? ones : zeros).add(world);
        }
        long one = best(ones, left, known | 1 << q, done, mean, barred, memo);
        long zero = best(zeros, left, known | 1 << q, done, mean, barred, memo);
        return mean ? one + zero : Math.min(one, zero);
    }

    private long actIn(int d, List<Integer> worlds, int[] there, int known, int done, boolean mean, int barred,
            Map<String, Long> memo) {
        int[] deed = deeds.get(d);
        if ((done >> d & 1) == 1 || there[deed[3]] < deed[4]) {
            return -1;
        }
        int[] left = there.clone();
        left[deed[3]] -= deed[4];
        return best(worlds, left, known, done | 1 << d, mean, barred, memo);
    }

    private long best(List<Integer> worlds, int[] there, int known, int done, boolean mean, int barred,
            Map<String, Long> memo) {
        String key = worlds + " " + known + " " + done;
        Long had = memo.get(key);
        if (had != null) {
            return had;
        }
        long best = stop(worlds, there, done, mean);
        for (int q = 0; q < questions.size(); q++) {
            if (q != barred) {
                best = Math.max(best, drinkIn(q, worlds, there, known, done, mean, barred, memo));
            }
        }
        for (int d = 0; d < deeds.size(); d++) {
            best = Math.max(best, actIn(d, worlds, there, known, done, mean, barred, memo));
        }
        memo.put(key, best);
        return best;
    }

    private int greatest(boolean mean, int what) {
        if (what != 0 && what != 1) {
            return BAD;
        }
        Map<String, Long> memo = new HashMap<>();
        int known = bits(now.known);
        int done = bits(now.done);
        List<Integer> worlds = worlds();
        long best = best(worlds, now.there, known, done, mean, -1, memo);
        if (what == 0) {
            return (int) best;
        }
        if (stop(worlds, now.there, done, mean) == best) {
            return 0;
        }
        for (int q = 0; q < questions.size(); q++) {
            if (drinkIn(q, worlds, now.there, known, done, mean, -1, memo) == best) {
                return q + 1;
            }
        }
        for (int d = 0; d < deeds.size(); d++) {
            if (actIn(d, worlds, now.there, known, done, mean, -1, memo) == best) {
                return d + 5;
            }
        }
        throw new IllegalStateException("no first");
    }

    int mean(int what) {
        return greatest(true, what);
    }

    int worst(int what) {
        return greatest(false, what);
    }

    int regret(int question) {
        int refusal = tryDrink(now.copy(), question);
        if (refusal < 0) {
            return refusal;
        }
        int known = bits(now.known);
        int done = bits(now.done);
        long behind = drinkIn(question, worlds(), now.there, known, done, false, -1, new HashMap<>());
        long without = best(worlds(), now.there, known, done, false, question, new HashMap<>());
        return (int) Math.max(0, without - behind);
    }

    int never() {
        int bits = 0;
        for (int q = 0; q < 4; q++) {
            bits += regret(q) == 0 ? 1 << q : 0;
        }
        return bits;
    }

    int shortFor(int set) {
        if (set < 0 || set > (1 << deeds.size()) - 1) {
            return BAD;
        }
        int[] left = now.there.clone();
        for (int d = 0; d < deeds.size(); d++) {
            if ((set & 1 << d) != 0 && !now.done[d]) {
                left[deeds.get(d)[3]] -= deeds.get(d)[4];
            }
        }
        int bits = 0;
        for (int t = 0; t < 4; t++) {
            bits += left[t] < 0 ? 1 << t : 0;
        }
        return bits;
    }

    int see(int deed, boolean done) {
        if (deed < 0 || deed >= deeds.size()) {
            return UNKNOWN;
        }
        if (seen.size() == 6) {
            return FULL;
        }
        seen.add(new int[] {deed, done ? 1 : 0});
        return seen.size();
    }

    int unsee() {
        int was = seen.size();
        seen.clear();
        return was;
    }

    int knew(int what) {
        if (what < 0 || what > 2) {
            return BAD;
        }
        int count = 0;
        int least = 99;
        int all = 15;
        for (int way = (1 << questions.size()) - 1; way >= 0; way--) {
            boolean fits = true;
            for (int[] sight : seen) {
                if (sight[0] < deeds.size()) {
                    int[] d = deeds.get(sight[0]);
                    fits &= ((way >> d[0] & 1) == d[1]) == (sight[1] == 1);
                }
            }
            if (fits) {
                count++;
                least = way;
                all &= way;
            }
        }
        return what == 0 ? count : count == 0 ? NONE : what == 1 ? least : all;
    }

    long seed(long v) {
        long was = seed;
        seed = v;
        return was;
    }

    int drinkers(int m) {
        if (m < 1 || m > 30) {
            return BAD;
        }
        State s = now.copy();
        for (int i = 0; i < m; i++) {
            seed = seed * 6364136223846793005L + 1442695040888963407L;
            int choice = (int) ((seed >>> 33) % 8);
            if (choice < 4) {
                tryDrink(s, choice);
            } else {
                tryAct(s, choice - 4);
            }
            passDay(s);
        }
        return estate(s);
    }

    int keep(int slot) {
        if (slot != 0 && slot != 1) {
            return UNKNOWN;
        }
        slots[slot] = now.copy();
        return estate(now);
    }

    int again(int slot) {
        if (slot != 0 && slot != 1) {
            return UNKNOWN;
        }
        if (slots[slot] == null) {
            return LATE;
        }
        now = slots[slot].copy();
        acts.clear();
        return estate(now);
    }
}
