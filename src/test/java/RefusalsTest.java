import java.util.function.Consumer;
import java.util.function.ToLongFunction;

/**
 * REFUSALS (terms, part 4): every refused call of the face, at nothing, with half a text, with all
 * full, with all spent: what it answers, and that it changes nothing.
 */
public final class RefusalsTest {
    private static final String FOURS = "ET921T732T813T940Q0210Q1301Q2110Q3406D01301D11510D20224D31931";
    private static final Check C = new Check();

    private static String setting;
    private static Consumer<EyeDrink> ahead;

    public static void main(String[] args) {
        in("nothing", x -> { });
        inEverySetting();
        whereThereIsNothing();
        in("half a text", x -> Check.tell(x, "ET1"));
        inEverySetting();
        whereThereIsNothing();
        in("all full", RefusalsTest::allFull);
        inEverySetting();
        whereAllIsFull();
        in("all spent", RefusalsTest::allSpent);
        inEverySetting();
        whereAllIsSpent();
        in("one of each", x -> {
            Check.tell(x, "ET110Q0210D01902");
            x.well();
        });
        inEverySetting();
        whereThereIsOneOfEach();
        C.end();
    }

    private static void in(String name, Consumer<EyeDrink> calls) {
        setting = name;
        ahead = calls;
    }

    private static void refused(String call, int want, ToLongFunction<EyeDrink> refusal) {
        Twins.refused(C, setting + ": " + call, ahead, refusal, want);
    }

    /** 14 acts, both slots, 6 sights, and a text of 64 bytes that is no well. */
    private static void allFull(EyeDrink x) {
        Check.tell(x, FOURS);
        x.well();
        x.write('T');
        while (x.write(255) > 0) {
            C.holds("64 at most", x.about(9) <= 64);
        }
        x.seed(-5);
        x.drink(0);
        x.keep(0);
        x.act(1);
        for (int i = 0; i < 9; i++) {
            x.day();
            x.see(i % 4, i % 3 == 0);
        }
        x.drink(1);
        x.day();
        x.act(0);
        x.keep(1);
        x.day();
        x.act(3);
    }

    /** All is known and done, nothing is left, no act can be undone, one slot is empty. */
    private static void allSpent(EyeDrink x) {
        Check.tell(x, "ET100T101Q0110Q1100D01000D11000");
        x.well();
        x.drink(0);
        x.drink(1);
        x.act(0);
        x.act(1);
        x.keep(1);
        x.day();
        x.again(1);
        Check.tell(x, "ET100Q");
    }

    /** What no state allows. */
    private static void inEverySetting() {
        refused("write(-1)", EyeDrink.BAD, x -> x.write(-1));
        refused("write(256)", EyeDrink.BAD, x -> x.write(256));
        for (int off : new int[] {-1, 4}) {
            refused("thing(" + off + ", 0)", EyeDrink.UNKNOWN, x -> x.thing(off, 0));
            refused("thing(" + off + ", 5)", EyeDrink.UNKNOWN, x -> x.thing(off, 5));
            refused("question(" + off + ", 0)", EyeDrink.UNKNOWN, x -> x.question(off, 0));
            refused("question(" + off + ", 4)", EyeDrink.UNKNOWN, x -> x.question(off, 4));
            refused("deed(" + off + ", 0)", EyeDrink.UNKNOWN, x -> x.deed(off, 0));
            refused("deed(" + off + ", 6)", EyeDrink.UNKNOWN, x -> x.deed(off, 6));
            refused("drink(" + off + ")", EyeDrink.UNKNOWN, x -> x.drink(off));
            refused("act(" + off + ")", EyeDrink.UNKNOWN, x -> x.act(off));
            refused("regret(" + off + ")", EyeDrink.UNKNOWN, x -> x.regret(off));
            refused("see(" + off + ")", EyeDrink.UNKNOWN, x -> x.see(off, true));
        }
        for (int off : new int[] {-1, 2}) {
            refused("can(" + off + ")", EyeDrink.BAD, x -> x.can(off));
            refused("mean(" + off + ")", EyeDrink.BAD, x -> x.mean(off));
            refused("worst(" + off + ")", EyeDrink.BAD, x -> x.worst(off));
            refused("partners(1, 1, 1, " + off + ")", EyeDrink.BAD, x -> x.partners(1, 1, 1, off));
            refused("keeper(1, 1, " + off + ")", EyeDrink.BAD, x -> x.keeper(1, 1, off));
            refused("keep(" + off + ")", EyeDrink.UNKNOWN, x -> x.keep(off));
            refused("again(" + off + ")", EyeDrink.UNKNOWN, x -> x.again(off));
        }
        for (int off : new int[] {-1, 10}) {
            refused("about(" + off + ")", EyeDrink.BAD, x -> x.about(off));
            refused("partners(" + off + ", 1, 1, 0)", EyeDrink.BAD, x -> x.partners(off, 1, 1, 0));
            refused("partners(1, " + off + ", 1, 0)", EyeDrink.BAD, x -> x.partners(1, off, 1, 0));
            refused("partners(1, 1, " + off + ", 0)", EyeDrink.BAD, x -> x.partners(1, 1, off, 0));
            refused("keeper(1, " + off + ", 0)", EyeDrink.BAD, x -> x.keeper(1, off, 0));
            refused("byTurns(" + off + ", 1)", EyeDrink.BAD, x -> x.byTurns(off, 1));
        }
        for (int off : new int[] {0, 7}) {
            refused("keeper(" + off + ", 1, 0)", EyeDrink.BAD, x -> x.keeper(off, 1, 0));
            refused("byTurns(1, " + off + ")", EyeDrink.BAD, x -> x.byTurns(1, off));
        }
        refused("partners(0, 1, 1, 0)", EyeDrink.BAD, x -> x.partners(0, 1, 1, 0));
        refused("shortFor(-1)", EyeDrink.BAD, x -> x.shortFor(-1));
        refused("shortFor(16)", EyeDrink.BAD, x -> x.shortFor(16));
        refused("knew(-1)", EyeDrink.BAD, x -> x.knew(-1));
        refused("knew(3)", EyeDrink.BAD, x -> x.knew(3));
        refused("drinkers(0)", EyeDrink.BAD, x -> x.drinkers(0));
        refused("drinkers(31)", EyeDrink.BAD, x -> x.drinkers(31));
    }

    private static void whereThereIsNothing() {
        refused("well()", EyeDrink.LATE, EyeDrink::well);
        refused("thing(0, 0)", EyeDrink.UNKNOWN, x -> x.thing(0, 0));
        refused("question(0, 0)", EyeDrink.UNKNOWN, x -> x.question(0, 0));
        refused("deed(0, 0)", EyeDrink.UNKNOWN, x -> x.deed(0, 0));
        refused("drink(0)", EyeDrink.UNKNOWN, x -> x.drink(0));
        refused("act(0)", EyeDrink.UNKNOWN, x -> x.act(0));
        refused("undo()", EyeDrink.LATE, EyeDrink::undo);
        refused("regret(0)", EyeDrink.UNKNOWN, x -> x.regret(0));
        refused("shortFor(1)", EyeDrink.BAD, x -> x.shortFor(1));
        refused("see(0)", EyeDrink.UNKNOWN, x -> x.see(0, false));
        refused("again(0)", EyeDrink.LATE, x -> x.again(0));
        refused("again(1)", EyeDrink.LATE, x -> x.again(1));
    }

    private static void whereAllIsFull() {
        EyeDrink full = new EyeDrink();
        ahead.accept(full);
        C.due("acts", full.about(7), 14);
        C.due("seen", full.about(8), 6);
        C.due("bytes", full.about(9), 64);
        refused("write('E')", EyeDrink.FULL, x -> x.write('E'));
        refused("write(0)", EyeDrink.FULL, x -> x.write(0));
        refused("well()", EyeDrink.LATE, EyeDrink::well);
        refused("drink(0), known", EyeDrink.LATE, x -> x.drink(0));
        refused("act(1), done", EyeDrink.LATE, x -> x.act(1));
        refused("regret(1), known", EyeDrink.LATE, x -> x.regret(1));
        for (int deed = 0; deed < 4; deed++) {
            int seen = deed;
            refused("see(" + deed + ", true)", EyeDrink.FULL, x -> x.see(seen, true));
            refused("see(" + deed + ", false)", EyeDrink.FULL, x -> x.see(seen, false));
        }
        refused("thing(3, 5)", EyeDrink.BAD, x -> x.thing(3, 5));
        refused("thing(3, -1)", EyeDrink.BAD, x -> x.thing(3, -1));
        refused("question(3, 4)", EyeDrink.BAD, x -> x.question(3, 4));
        refused("question(3, -1)", EyeDrink.BAD, x -> x.question(3, -1));
        refused("deed(3, 6)", EyeDrink.BAD, x -> x.deed(3, 6));
        refused("deed(3, -1)", EyeDrink.BAD, x -> x.deed(3, -1));
    }

    private static void whereAllIsSpent() {
        refused("well()", EyeDrink.LATE, EyeDrink::well);
        refused("undo()", EyeDrink.LATE, EyeDrink::undo);
        refused("again(0)", EyeDrink.LATE, x -> x.again(0));
        for (int i = 0; i <= 1; i++) {
            int which = i;
            refused("drink(" + i + ")", EyeDrink.LATE, x -> x.drink(which));
            refused("act(" + i + ")", EyeDrink.LATE, x -> x.act(which));
            refused("regret(" + i + ")", EyeDrink.LATE, x -> x.regret(which));
        }
        refused("drink(2)", EyeDrink.UNKNOWN, x -> x.drink(2));
        refused("act(2)", EyeDrink.UNKNOWN, x -> x.act(2));
        refused("regret(2)", EyeDrink.UNKNOWN, x -> x.regret(2));
        refused("see(2)", EyeDrink.UNKNOWN, x -> x.see(2, true));
        refused("shortFor(4)", EyeDrink.BAD, x -> x.shortFor(4));
    }

    private static void whereThereIsOneOfEach() {
        refused("drink(0)", EyeDrink.FULL, x -> x.drink(0));
        refused("act(0)", EyeDrink.FULL, x -> x.act(0));
        refused("regret(0)", EyeDrink.FULL, x -> x.regret(0));
        refused("drink(1)", EyeDrink.UNKNOWN, x -> x.drink(1));
        refused("act(1)", EyeDrink.UNKNOWN, x -> x.act(1));
        refused("regret(1)", EyeDrink.UNKNOWN, x -> x.regret(1));
        refused("see(1)", EyeDrink.UNKNOWN, x -> x.see(1, true));
        refused("thing(1, 0)", EyeDrink.UNKNOWN, x -> x.thing(1, 0));
        refused("question(1, 0)", EyeDrink.UNKNOWN, x -> x.question(1, 0));
        refused("deed(1, 0)", EyeDrink.UNKNOWN, x -> x.deed(1, 0));
        refused("shortFor(2)", EyeDrink.BAD, x -> x.shortFor(2));
        refused("undo()", EyeDrink.LATE, EyeDrink::undo);
        refused("again(0)", EyeDrink.LATE, x -> x.again(0));
        refused("again(1)", EyeDrink.LATE, x -> x.again(1));
    }
}
