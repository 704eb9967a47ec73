import java.util.Random;

/** Random runs of calls, against the document told a second time in Model. */
public final class ModelTest {
    private static final int RUNS = 2500;
    private static final int CALLS = 512;
    private static final int[] EDGES = {-1, 0, 1, 2, 3, 4, 5, 6, 9, 10, 30, 31, 64, 255, 256, -9,
        Integer.MIN_VALUE, Integer.MAX_VALUE};

    private static final Check C = new Check();
    private static Random random;
    private static EyeDrink x;
    private static Model y;

    public static void main(String[] args) {
        for (int run = 0; run < RUNS && C.clean(); run++) {
            random = new Random(run);
            x = new EyeDrink();
            y = new Model();
            int calls = 0;
            while (calls < CALLS - 62 && C.clean()) {
                int before = calls;
                calls += random.nextInt(40) == 0 || calls == 0 ? tellWell() : 0;
                calls += before == calls ? call("run " + run + ", call " + calls + ": ") : 0;
            }
        }
        C.end();
    }

    private static int below(int n) {
        return random.nextInt(n);
    }

    /** Mostly a well; now and then one byte of it is another one, or its end is cut off. */
    private static int tellWell() {
        StringBuilder text = new StringBuilder("E");
        int things = 1 + below(4);
        int questions = below(5);
        int deeds = questions == 0 ? 0 : below(5);
        for (int i = 0; i < things; i++) {
            text.append('T').append(1 + below(9)).append(below(10)).append(below(4));
        }
        int dear = 1 + below(9);
        for (int i = 0; i < questions; i++) {
            text.append('Q').append(below(things)).append(1 + below(dear)).append(below(2)).append(below(10));
        }
        for (int i = 0; i < deeds; i++) {
            text.append('D').append(below(questions)).append(below(2)).append(below(10)).append(below(things))
                    .append(below(dear));
        }
        if (below(5) == 0) {
            text.setCharAt(below(text.length()), (char) (below(2) == 0 ? 48 + below(10) : below(256)));
        } else if (below(8) == 0) {
            text.setLength(below(text.length()));
        }
        String told = text.toString();
        C.due("wipe", x.wipe(), y.wipe());
        for (int i = 0; i < told.length(); i++) {
            C.due("write", x.write(told.charAt(i)), y.write(told.charAt(i)));
        }
        C.due("fault of " + told, x.fault(), y.fault());
        C.due("well of " + told, x.well(), y.well());
        return told.length() + 3;
    }

    /** Mostly a number that there is, now and then one that there isn't. */
    private static int some(int n) {
        return below(12) == 0 ? EDGES[below(EDGES.length)] : below(n);
    }

    private static int call(String at) {
        int a = some(4);
        int b = some(6);
        boolean flag = below(2) == 0;
        switch (below(24)) {
            case 0: C.due(at + "drink " + a, x.drink(a), y.drink(a)); break;
            case 1: C.due(at + "act " + a, x.act(a), y.act(a)); break;
            case 2: C.due(at + "day", x.day(), y.day()); break;
            case 3: C.due(at + "undo", x.undo(), y.undo()); break;
            case 4: C.due(at + "can " + b % 2, x.can(b % 2), y.can(b % 2)); break;
            case 5: C.due(at + "mean 0 of " + y.text, x.mean(0), y.mean(0)); break;
            case 6: C.due(at + "mean 1 of " + y.text, x.mean(1), y.mean(1)); break;
            case 7: C.due(at + "worst 0 of " + y.text, x.worst(0), y.worst(0)); break;
            case 8: C.due(at + "worst 1 of " + y.text, x.worst(1), y.worst(1)); break;
            case 9: C.due(at + "regret of " + y.text, x.regret(a), y.regret(a)); break;
            case 10: C.due(at + "never of " + y.text, x.never(), y.never()); break;
            case 11: int set = some(16); C.due(at + "shortFor " + set, x.shortFor(set), y.shortFor(set)); break;
            case 12: C.due(at + "thing", x.thing(a, b), y.thing(a, b)); break;
            case 13: C.due(at + "question", x.question(a, b), y.question(a, b)); break;
            case 14: C.due(at + "deed", x.deed(a, b), y.deed(a, b)); break;
            case 15: C.due(at + "see", x.see(a, flag), y.see(a, flag)); break;
            case 16: unseeSometimes(at); break;
            case 17: C.due(at + "knew", x.knew(b), y.knew(b)); break;
            case 18: seed(at); break;
            case 19: int m = some(31); C.due(at + "drinkers", x.drinkers(m), y.drinkers(m)); break;
            case 20: C.due(at + "keep", x.keep(a), y.keep(a)); break;
            case 21: C.due(at + "again", x.again(a), y.again(a)); break;
            case 22: C.due(at + "mean " + b, x.mean(b), y.mean(b)); C.due(at + "worst", x.worst(b), y.worst(b)); break;
            default: all(at); break;
        }
        return 1;
    }

    /** Seldom, so that what is seen can grow to its limit. */
    private static void unseeSometimes(String at) {
        if (below(6) == 0) {
            C.due(at + "unsee", x.unsee(), y.unsee());
        }
    }

    private static void seed(String at) {
        long v = random.nextLong();
        C.due(at + "seed", x.seed(v), y.seed(v));
    }

    private static void all(String at) {
        for (int what = -1; what <= 10; what++) {
            C.due(at + "about " + what, x.about(what), y.about(what));
        }
        for (int t = 0; t < 4; t++) {
            C.due(at + "thing " + t, x.thing(t, 3), y.thing(t, 3));
            C.due(at + "away " + t, x.thing(t, 4), y.thing(t, 4));
        }
    }
}
