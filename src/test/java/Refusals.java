import java.util.List;
import java.util.function.Supplier;
import java.util.function.ToIntFunction;

/** Calls that are refused, in displays of several kinds, and what later calls tell behind them. */
final class Refusals {
    /** Numbers that are outside of each range. */
    static final int[] FAR = {Integer.MIN_VALUE, Integer.MAX_VALUE};

    /**
     * Displays with 4, 8, 3 and 1 digits: a new one; one with a full history and a full text; one
     * in the middle of a test, with broken segments and a text that has a fault; one that is worn.
     */
    static final List<Supplier<ScannedDigits>> ALL = List.of(
        ScannedDigits::new, Refusals::full, Refusals::tested, Refusals::worn);

    private Refusals() {
    }

    static ScannedDigits full() {
        ScannedDigits x = new ScannedDigits();
        x.keep(0);
        x.setDigits(8);
        x.keep(1);
        x.setWidth(7, 40);
        x.setPattern(7, 255);
        x.setGroup(7, 1);
        x.setBlink(1, 1, 1);
        x.passFrames(2);
        x.pass(100);
        Display.typeAll(x, "1.2.3.4.5.6.7.8.9.0.1.2.3.4.5.");
        return x;
    }

    static ScannedDigits tested() {
        ScannedDigits x = new ScannedDigits();
        x.setDigits(3);
        x.setPattern(0, 3);
        x.setGuard(1, 3);
        x.set(2, 8);
        x.keep(1);
        x.test(5);
        x.pass(33);
        Display.typeAll(x, "12345");
        return x;
    }

    static ScannedDigits worn() {
        ScannedDigits x = Display.alwaysLit(131);
        x.set(2, 20);
        x.pass(25);
        x.setPattern(0, 255);
        x.test(2);
        x.undo();
        x.pass(4);
        Display.typeAll(x, "8.");
        return x;
    }

    /** The call is due to answer this in each kind of display, and to change nothing. */
    static void refused(String call, int due, ToIntFunction<ScannedDigits> refused) {
        for (Supplier<ScannedDigits> kind : ALL) {
            refusedBy(kind, call, due, refused);
        }
    }

    /** The same in displays of one kind; the call is told the same again when it comes twice. */
    static void refusedBy(Supplier<ScannedDigits> kind, String call, int due,
            ToIntFunction<ScannedDigits> refused) {
        for (int later = 0; later < 5; later++) {
            ScannedDigits x = kind.get();
            Check.due(call, refused.applyAsInt(x), due);
            Check.due(call + ", again", refused.applyAsInt(x), due);
            Check.dueText("behind " + call + ": " + later, told(x, later),
                told(kind.get(), later));
        }
    }

    /** What later calls tell: of the state, the history, the snapshots, the text, the time. */
    private static String told(ScannedDigits x, int later) {
        StringBuilder told = new StringBuilder();
        switch (later) {
            case 0:
                return Display.tells(x);
            case 1:
                for (int undo = 0; undo < 6; undo++) {
                    told.append(x.undo()).append(brief(x));
                }
                return told.toString();
            case 2:
                for (int slot = 0; slot <= 1; slot++) {
                    told.append(x.restore(slot)).append(brief(x));
                }
                return told.toString();
            case 3:
                told.append(x.setDigits(8)).append(' ').append(x.show()).append(brief(x));
                told.append(x.clearText()).append(' ').append(x.type('1')).append(brief(x));
                return told.append(x.show()).append(brief(x)).toString();
            default:
                told.append(x.pass(41)).append('\n');
                return told.append(Display.tells(x)).toString();
        }
    }

    private static String brief(ScannedDigits x) {
        StringBuilder told = new StringBuilder(": ");
        for (int what = 0; what <= 13; what++) {
            told.append(x.count(what)).append(' ');
        }
        return told.append(Display.patterns(x)).append('\n').toString();
    }
}
