import java.util.function.ToIntBiFunction;

/** Counts the answers that are not due; every test makes one. */
final class Check {
    private int wrong;
    private int asked;

    void due(String call, long got, long want) {
        asked++;
        if (got != want) {
            wrong++;
            if (wrong <= 50) {
                System.out.println(call + " answered " + got + ", due is " + want);
            }
        }
    }

    void holds(String what, boolean itIsSo) {
        due(what, itIsSo ? 1 : 0, 1);
    }

    /**
     * In wells with none to four like parts behind a start: a call with the number of the last part
     * answers what is due, with the next number, which no part has, that it is not known.
     */
    void knownToTheLast(String name, String start, String part, ToIntBiFunction<EyeDrink, Integer> call, int want) {
        for (int n = 0; n <= 4; n++) {
            EyeDrink x = wellOf(start + part.repeat(n));
            due(name + "(" + n + ") of " + n, call.applyAsInt(x, n), EyeDrink.UNKNOWN);
            due(name + "(" + (n - 1) + ") of " + n, call.applyAsInt(x, n - 1), n == 0 ? EyeDrink.UNKNOWN : want);
        }
    }

    boolean clean() {
        return wrong == 0;
    }

    void end() {
        System.out.println(asked + " answers looked at, " + wrong + " not as due");
        if (wrong != 0) {
            System.exit(1);
        }
    }

    /** Wipes what was written and writes this. */
    static void tell(EyeDrink x, String text) {
        x.wipe();
        for (int i = 0; i < text.length(); i++) {
            x.write(text.charAt(i));
        }
    }

    static EyeDrink wellOf(String text) {
        EyeDrink x = new EyeDrink();
        tell(x, text);
        if (x.well() < 0) {
            throw new IllegalArgumentException("no well: " + text);
        }
        return x;
    }

    static int faultOf(String text) {
        EyeDrink x = new EyeDrink();
        tell(x, text);
        return x.fault();
    }
}
