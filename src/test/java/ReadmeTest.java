/** The example of README.md: each call of it, in its order, with the answer that it tells. */
public final class ReadmeTest {
    public static void main(String[] args) {
        ScannedDigits display = new ScannedDigits();
        showsAText(display);
        letsTimePass(display);
        blinks(display);
        isTakenBack(display);
        tellsErrors(display);
        Check.end();
    }

    private static void showsAText(ScannedDigits display) {
        Check.due("display.type('1')", display.type('1'), 1);
        Check.due("display.type('.')", display.type('.'), 2);
        Check.due("display.type('5')", display.type('5'), 3);
        Check.due("display.show()", display.show(), 2);
        Check.due("display.digit(0, 0)", display.digit(0, 0), 134);
        Check.due("display.litIn(0, 8)", display.litIn(0, 8), 134);
        Check.due("display.litIn(0, 9)", display.litIn(0, 9), 0);
    }

    private static void letsTimePass(ScannedDigits display) {
        Check.due("display.setBrightness(1, 10)", display.setBrightness(1, 10), 6);
        Check.due("display.pass(16)", display.pass(16), 57);
        Check.due("display.digit(0, 7)", display.digit(0, 7), 134);
        Check.due("display.segment(0, 1, 0)", display.segment(0, 1, 0), 360);
        Check.due("display.passFrames(1)", display.passFrames(1), 40);
        Check.dueFloat("display.duty(1)", display.duty(1), 0.15f);
    }

    private static void blinks(ScannedDigits display) {
        Check.due("display.setBlink(1, 1, 2)", display.setBlink(1, 1, 2), 0);
        Check.due("display.setGroup(1, 1)", display.setGroup(1, 1), 0);
        Check.due("display.group(1, 2)", display.group(1, 2), 0);
    }

    private static void isTakenBack(ScannedDigits display) {
        Check.due("display.keep(0)", display.keep(0), 40);
        Check.due("display.undo()", display.undo(), 4);
        Check.due("display.digit(1, 4)", display.digit(1, 4), 0);
        Check.due("display.restore(0)", display.restore(0), 40);
        Check.due("display.digit(1, 4)", display.digit(1, 4), 1);
    }

    private static void tellsErrors(ScannedDigits display) {
        Check.due("display.digit(4, 0)", display.digit(4, 0), ScannedDigits.UNKNOWN);
        Check.due("display.setDigits(9)", display.setDigits(9), ScannedDigits.BAD_VALUE);
        Check.due("display.restore(1)", display.restore(1), ScannedDigits.NONE);
        Check.due("display.type('x')", display.type('x'), 4);
        Check.due("display.show()", display.show(), -103);
    }
}
