import java.util.ArrayList;
import java.util.List;
import java.util.function.Consumer;
import java.util.function.Function;
import java.util.function.ToLongFunction;

/**
 * Two objects with the same calls behind them, but for one call that may change nothing: whatever
 * is asked of them from then on, they answer alike. What lies deep (acts, slots, the text's bytes)
 * shows only by calls that change it, so each way to look goes on from new twins.
 */
final class Twins {
    private static final List<Function<EyeDrink, List<Long>>> LOOKS = List.of(Twins::all, Twins::backwards,
            x -> onFrom(x, 0), x -> onFrom(x, 1), Twins::days, Twins::wellOfItsText, Twins::fillUp, Twins::chance,
            Twins::sights);

    private Twins() {
    }

    static void unchangedBy(Check c, String name, Consumer<EyeDrink> ahead, ToLongFunction<EyeDrink> call) {
        for (int look = 0; look < LOOKS.size(); look++) {
            EyeDrink with = new EyeDrink();
            EyeDrink without = new EyeDrink();
            ahead.accept(with);
            ahead.accept(without);
            call.applyAsLong(with);
            List<Long> got = LOOKS.get(look).apply(with);
            List<Long> want = LOOKS.get(look).apply(without);
            c.holds(name + " changes nothing, by look " + look + ": " + got + ", due is " + want, got.equals(want));
        }
    }

    static void refused(Check c, String name, Consumer<EyeDrink> ahead, ToLongFunction<EyeDrink> call, int want) {
        EyeDrink x = new EyeDrink();
        ahead.accept(x);
        c.due(name, call.applyAsLong(x), want);
        c.due(name + ", once more", call.applyAsLong(x), want);
        unchangedBy(c, name, ahead, call);
    }

    /** Something of everything: acts, a slot, things away and grown, sights, a seed. */
    static void busy(EyeDrink x) {
        Check.tell(x, "ET941T322Q0210Q1104Q0110D01903D10811D01201");
        x.well();
        x.drink(0);
        x.day();
        x.keep(1);
        x.act(1);
        x.see(1, true);
        x.seed(8);
    }

    /** All that is told without a change. */
    private static List<Long> all(EyeDrink x) {
        List<Long> told = new ArrayList<>();
        for (int what = 0; what <= 9; what++) {
            told.add((long) x.about(what));
        }
        for (int i = 0; i < 4; i++) {
            for (int what = 0; what <= 5; what++) {
                told.add((long) x.thing(i, what));
                told.add((long) x.question(i, what));
                told.add((long) x.deed(i, what));
            }
            told.add((long) x.regret(i));
        }
        for (int what = 0; what <= 1; what++) {
            told.add((long) x.can(what));
            told.add((long) x.mean(what));
            told.add((long) x.worst(what));
        }
        for (int set = 0; set <= 15; set++) {
            told.add((long) x.shortFor(set));
        }
        told.add((long) x.never());
        told.add((long) x.fault());
        told.add((long) x.knew(0));
        told.add((long) x.knew(1));
        return told;
    }

    private static void addStand(List<Long> told, EyeDrink x) {
        for (int what = 3; what <= 7; what++) {
            told.add((long) x.about(what));
        }
        for (int t = 0; t < 4; t++) {
            told.add((long) x.thing(t, 3));
            told.add((long) x.thing(t, 4));
        }
    }

    private static List<Long> backwards(EyeDrink x) {
        List<Long> told = new ArrayList<>();
        for (int i = 0; i <= 15; i++) {
            told.add((long) x.undo());
            addStand(told, x);
        }
        return told;
    }

    private static List<Long> onFrom(EyeDrink x, int slot) {
        List<Long> told = new ArrayList<>();
        told.add((long) x.again(slot));
        addStand(told, x);
        told.addAll(days(x));
        return told;
    }

    /** What was given yesterday and what today comes back on different days. */
    private static List<Long> days(EyeDrink x) {
        List<Long> told = new ArrayList<>();
        for (int i = 0; i < 3; i++) {
            told.add((long) x.day());
            addStand(told, x);
        }
        return told;
    }

    private static List<Long> wellOfItsText(EyeDrink x) {
        List<Long> told = new ArrayList<>();
        told.add((long) x.well());
        told.addAll(all(x));
        return told;
    }

    /** Figures come behind the text till it is full. */
    private static List<Long> fillUp(EyeDrink x) {
        List<Long> told = new ArrayList<>();
        for (int i = 0; i <= 65; i++) {
            told.add((long) x.write('1'));
            told.add((long) x.fault());
        }
        told.add((long) x.wipe());
        return told;
    }

    private static List<Long> chance(EyeDrink x) {
        List<Long> told = new ArrayList<>();
        told.add((long) x.drinkers(30));
        told.add(x.seed(1));
        told.add(x.seed(0));
        return told;
    }

    private static List<Long> sights(EyeDrink x) {
        List<Long> told = new ArrayList<>();
        for (int i = 0; i < 7; i++) {
            told.add((long) x.see(0, true));
            told.add((long) x.knew(0));
        }
        told.add((long) x.unsee());
        told.add((long) x.knew(0));
        return told;
    }
}
