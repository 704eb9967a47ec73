/** Promises 1 to 5: a new object, write, wipe, fault, well. */
public final class TextTest {
    private static final String FULLEST = "ET100T100T100T100Q0101Q0101Q0101Q0101D00100D00100D00100D00100";
    private static final Check C = new Check();

    public static void main(String[] args) {
        newObject();
        writing();
        wiping();
        faults();
        everyByteOfAWell();
        wells();
        C.end();
    }

    private static void newObject() {
        EyeDrink x = new EyeDrink();
        for (int what = 0; what <= 9; what++) {
            C.due("new: about(" + what + ")", x.about(what), what == 6 ? 1000 : 0);
        }
        C.due("new: thing", x.thing(0, 0), EyeDrink.UNKNOWN);
        C.due("new: question", x.question(0, 0), EyeDrink.UNKNOWN);
        C.due("new: deed", x.deed(0, 0), EyeDrink.UNKNOWN);
        C.due("new: undo", x.undo(), EyeDrink.LATE);
        C.due("new: again", x.again(0), EyeDrink.LATE);
        C.due("new: seed", x.seed(7), 0);
        C.due("new: unsee", x.unsee(), 0);
    }

    private static void writing() {
        EyeDrink x = new EyeDrink();
        C.due("write(-1)", x.write(-1), EyeDrink.BAD);
        C.due("write(256)", x.write(256), EyeDrink.BAD);
        C.due("write(min)", x.write(Integer.MIN_VALUE), EyeDrink.BAD);
        C.due("write(max)", x.write(Integer.MAX_VALUE), EyeDrink.BAD);
        C.due("bytes", x.about(9), 0);
        for (int i = 1; i <= 64; i++) {
            C.due("write " + i, x.write(i % 2 == 0 ? 0 : 255), i);
        }
        C.due("write 65", x.write('E'), EyeDrink.FULL);
        C.due("write 65, bad", x.write(256), EyeDrink.BAD);
        C.due("bytes", x.about(9), 64);
        C.due("fault of 255", x.fault(), 0);
    }

    private static void wiping() {
        EyeDrink x = Check.wellOf("ET120");
        C.due("wipe", x.wipe(), 5);
        C.due("wipe again", x.wipe(), 0);
        C.due("the well stays", x.about(6), 1002);
        C.due("fault of nothing", x.fault(), 0);
        C.due("write behind it", x.write('E'), 1);
        C.due("fault of E", x.fault(), EyeDrink.NONE);
    }

    private static void faults() {
        fault("", 0);
        fault("E", EyeDrink.NONE);
        fault("e", 0);
        fault("T", 0);
        fault("EE", 1);
        fault("Et", 1);
        fault("EX", 1);
        fault("EQ", 1);
        fault("ED", 1);
        fault("E1", 1);
        fault("ET", 2);
        fault("ET0", 2);
        fault("ET:", 2);
        fault("ET/", 2);
        fault("ET1", 3);
        fault("ET1:", 3);
        fault("ET10", 4);
        fault("ET104", 4);
        fault("ET103", EyeDrink.NONE);
        fault("ET999", 4);
        fault("ET993D", 5);
        fault("ET993Q", 6);
        fault("ET993Q1", 6);
        fault("ET993Q00", 7);
        fault("ET993Q012", 8);
        fault("ET993Q011", 9);
        fault("ET993Q011:", 9);
        fault("ET993Q0119", EyeDrink.NONE);
        fault("ET993Q0119D", 11);
        fault("ET993Q0119D1", 11);
        fault("ET993Q0119D02", 12);
        fault("ET993Q0119D01x", 13);
        fault("ET993Q0119D0191", 14);
        fault("ET993Q0119D0190/", 15);
        fault("ET993Q0119D01909", EyeDrink.NONE);
        fault("ET993Q0119T100Q1119D1191", 24);
        fault("ET993Q0119T100Q1119D11919", EyeDrink.NONE);
        // the first fault counts, whatever comes behind it
        fault("ET0xxxx", 2);
        fault("QT100", 0);
        // a thing told behind a question is not told ahead of it
        fault("ET100Q1T100", 6);
        fault("ET100T100T100T100T", 17);
        fault("ET100Q0101Q0101Q0101Q0101Q", 25);
        fault("ET100Q0101D00100D00100D00100D00100D", 34);
        fault(FULLEST, EyeDrink.NONE);
        fault(FULLEST + "T", 61);
        fault(FULLEST + "TTT", 61);
        fault("E" + (char) 0, 1);
        fault("E" + (char) 255, 1);
    }

    private static void fault(String text, int want) {
        C.due("fault of " + text, Check.faultOf(text), want);
    }

    /** At each place of a well each byte is put: what the grammar allows there is no fault there. */
    private static void everyByteOfAWell() {
        String well = "ET120T341Q1217D01517T000";
        String allowed = "E|T|123456789|0123456789|0123|TQ|123456789|0123456789|0123|TQ|01|123456789|01|0123456789"
                + "|TQD|0|01|0123456789|01|0123456789|TQD|123456789";
        String[] at = allowed.split("\\|");
        C.due("fault at the last", Check.faultOf(well), 21);
        for (int place = 0; place < at.length; place++) {
            for (int letter = 0; letter < 256; letter++) {
                boolean fits = at[place].indexOf(letter) >= 0;
                int want = !fits ? place : isEnd(place) ? EyeDrink.NONE : place + 1;
                fault(well.substring(0, place) + (char) letter, want);
            }
        }
    }

    private static boolean isEnd(int place) {
        return place == 0 || place == 4 || place == 8 || place == 13 || place == 19;
    }

    private static void wells() {
        EyeDrink x = new EyeDrink();
        C.due("well of nothing", x.well(), EyeDrink.LATE);
        Check.tell(x, "E");
        C.due("well of E", x.well(), 0);
        Check.tell(x, FULLEST);
        C.due("fullest", x.well(), 444);
        C.due("the text stays", x.about(9), 61);
        x.drink(0);
        x.act(1);
        x.day();
        x.see(3, true);
        x.seed(12);
        x.keep(1);
        Check.tell(x, "ET12");
        C.due("well with a fault", x.well(), EyeDrink.LATE);
        C.due("nothing changed: things", x.about(0), 4);
        C.due("nothing changed: known", x.about(4), 1);
        C.due("nothing changed: acts", x.about(7), 3);
        x.write('1');
        C.due("well", x.well(), 100);
        C.due("day", x.about(3), 0);
        C.due("known", x.about(4), 0);
        C.due("done", x.about(5), 0);
        C.due("estate", x.about(6), 1002);
        C.due("acts", x.about(7), 0);
        C.due("undo", x.undo(), EyeDrink.LATE);
        C.due("what was kept is gone", x.again(1), EyeDrink.LATE);
        C.due("seen stays", x.about(8), 1);
        C.due("the seed stays", x.seed(0), 12);
        wellsMadeAnew();
    }

    private static void wellsMadeAnew() {
        EyeDrink x = Check.wellOf("ET521Q0210D00302");
        x.drink(0);
        x.act(0);
        x.day();
        C.due("the same anew", x.well(), 111);
        C.due("none is away", x.thing(0, 4), 0);
        C.due("all are there", x.thing(0, 3), 5);
        C.due("nothing won", x.about(6), 1010);
        C.due("nothing comes", x.day() + x.day(), 0);
        x.drink(0);
        Check.tell(x, "ET521Q0200");
        C.due("another well on the same day", x.well(), 110);
        C.due("none was given", x.thing(0, 4), 0);
        C.due("nothing comes", x.day() + x.day(), 0);
        C.due("another answer", x.drink(0), 0);
    }
}
