/** Calls that report an error or NONE change nothing, whatever their arguments are. */
public final class ErrorsTest {
    private static final int[] FAR = {
        Integer.MIN_VALUE, Integer.MIN_VALUE + 1, -1000000, -2, -1, 1000001, Integer.MAX_VALUE - 1,
        Integer.MAX_VALUE
    };

    public static void main(String[] args) {
        wrongCallsChangeNothing(false);
        wrongCallsChangeNothing(true);
        fullTextChangesNothing();
        Check.end();
    }

    private static ScannedDigits made(boolean isUsed) {
        ScannedDigits x = new ScannedDigits();
        if (isUsed) {
            x.setDigits(3);
            x.setPattern(0, 3);
            x.setBlink(1, 2, 3);
            x.setGroup(1, 1);
            x.set(2, 8);
            x.test(2);
            x.pass(33);
            Display.typeAll(x, "12345");
        }
        return x;
    }

    private static void wrongCallsChangeNothing(boolean isUsed) {
        ScannedDigits x = made(isUsed);
        ScannedDigits same = made(isUsed);
        for (int far : FAR) {
            wrongDigit(x, far);
            wrongValue(x, far);
            wrongTells(x, far);
        }
        wrongDigit(x, isUsed ? 3 : 4);
        Check.due("restore(0)", x.restore(0), -4);
        Check.due("restore(1)", x.restore(1), -4);
        Check.due("undo", isUsed ? -4 : x.undo(), -4);
        Check.due("show", isUsed ? x.show() : -103, -103);
        Check.dueText("nothing changes", Display.tells(x), Display.tells(same));
        // The history and the text are as they were, too.
        for (int i = 0; i < 6; i++) {
            Check.due("undo " + i, x.undo(), same.undo());
            Check.dueText("undo " + i, Display.tells(x), Display.tells(same));
        }
        x.setDigits(8);
        same.setDigits(8);
        Check.due("show", x.show(), same.show());
        Check.dueText("show", Display.tells(x), Display.tells(same));
    }

    /** UNKNOWN goes before BAD_VALUE. */
    private static void wrongDigit(ScannedDigits x, int digit) {
        for (int value : new int[] {5, Integer.MIN_VALUE, Integer.MAX_VALUE}) {
            Check.due("setWidth", x.setWidth(digit, value), -1);
            Check.due("setGuard", x.setGuard(digit, value), -1);
            Check.due("setBrightness", x.setBrightness(digit, value), -1);
            Check.due("setPattern", x.setPattern(digit, value), -1);
            Check.due("setGroup", x.setGroup(digit, value), -1);
            Check.due("digit", x.digit(digit, value), -1);
            Check.due("segment", x.segment(digit, 0, value), -1);
            Check.due("segment", x.segment(digit, value, 0), -1);
            Check.due("litIn", x.litIn(digit, value), -1);
        }
        Check.due("replace", x.replace(digit), -1);
        Check.due("steadyGlow", x.steadyGlow(digit), -1);
        Check.dueFloat("duty", x.duty(digit), 0f);
    }

    private static void wrongValue(ScannedDigits x, int value) {
        Check.due("setDigits", x.setDigits(value), -2);
        Check.due("setWidth", x.setWidth(0, value), -2);
        Check.due("setGuard", x.setGuard(0, value), -2);
        Check.due("setBrightness", x.setBrightness(0, value), -2);
        Check.due("setPattern", x.setPattern(0, value), -2);
        Check.due("setGroup", x.setGroup(0, value), -1);
        Check.due("setBlink", x.setBlink(value, value, value), -1);
        Check.due("setBlink", x.setBlink(0, value, value), -1);
        Check.due("setBlink", x.setBlink(1, value, 0), -2);
        Check.due("setBlink", x.setBlink(1, 1, value), -2);
        Check.due("set", x.set(value, value), -1);
        Check.due("set", x.set(value, 8), -1);
        for (int what = 0; what <= 2; what++) {
            Check.due("set", x.set(what, value), -2);
        }
        Check.due("test", x.test(value), -2);
        Check.due("pass", x.pass(value), -2);
        Check.due("passFrames", x.passFrames(value), -2);
        Check.due("keep", x.keep(value), -1);
        Check.due("restore", x.restore(value), -1);
    }

    private static void wrongTells(ScannedDigits x, int what) {
        Check.due("digit", x.digit(0, what), -2);
        Check.due("segment", x.segment(0, what, 0), -1);
        Check.due("segment", x.segment(0, what, what), -1);
        Check.due("segment", x.segment(0, 0, what), -2);
        Check.due("litIn", x.litIn(0, what), -2);
        Check.dueFloat("current", x.current(what), 0f);
        Check.due("thousandths", x.thousandths(what), -2);
        Check.due("count", x.count(what), -2);
        Check.due("group", x.group(what, 0), -1);
        Check.due("group", x.group(what, what), -1);
        Check.due("group", x.group(0, what), -2);
    }

    private static void fullTextChangesNothing() {
        ScannedDigits x = new ScannedDigits();
        x.setDigits(8);
        Display.typeAll(x, "1.2.3.4.5.6.7.8.9.0.1.2.3.4.5.");
        Check.due("full", x.type('x'), -3);
        Check.due("length", x.count(13), 30);
        Check.due("fault", x.show(), -116);
        Check.due("no act", x.count(12), 1);
        Check.due("emptied", x.clearText(), 30);
    }
}
