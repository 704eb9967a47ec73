/** Counts the answers that are not due; every test makes one. */
final class Check {
    private int wrong;
    private int asked;

    void due(String call, long got, long want) {
        asked++;
        if (got != want) {
            wrong++;
            if (wrong <= 50) {
                System.out.println(call + " answered " + got + ", due is " + want);
            }
        }
    }

    void holds(String what, boolean itIsSo) {
        due(what, itIsSo ? 1 : 0, 1);
    }

    boolean clean() {
        return wrong == 0;
    }

    void end() {
        System.out.println(asked + " answers looked at, " + wrong + " not as due");
        if (wrong != 0) {
            System.exit(1);
        }
    }

    /** Wipes what was written and writes this. */
    static void tell(EyeDrink x, String text) {
        x.wipe();
        for (int i = 0; i < text.length(); i++) {
            x.write(text.charAt(i));
        }
    }

    static EyeDrink wellOf(String text) {
        EyeDrink x = new EyeDrink();
        tell(x, text);
        if (x.well() < 0) {
            throw new IllegalArgumentException("no well: " + text);
        }
        return x;
    }

    static int faultOf(String text) {
        EyeDrink x = new EyeDrink();
        tell(x, text);
        return x.fault();
    }
}
