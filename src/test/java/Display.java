/** What the tests need of a display beyond single calls. */
final class Display {
    /** The characters of the document's table, and the pattern of each. */
    static final String TABLE = "0123456789- Ero";
    static final int[] BITS = {
        63, 6, 91, 79, 102, 109, 125, 7, 127, 111, 64, 0, 121, 80, 92
    };

    private Display() {
    }

    /**
     * All that a display tells, as one text; no call of it is an act. It takes fewer than the 512
     * calls that the document speaks of, also with eight digits.
     */
    static String tells(ScannedDigits x) {
        StringBuilder told = new StringBuilder();
        for (int what = 0; what <= 13; what++) {
            told.append(what == 0 ? "count " : " ").append(x.count(what));
        }
        for (int what = 0; what <= 2; what++) {
            told.append(" / ").append(x.current(what)).append(' ').append(x.thousandths(what));
        }
        for (int group = 0; group <= 3; group++) {
            told.append("\ngroup ").append(group).append(':');
            for (int what = 0; what <= 3; what++) {
                told.append(' ').append(x.group(group, what));
            }
        }
        for (int digit = 0; digit <= 8; digit++) {
            told.append("\ndigit ").append(digit).append(": ").append(x.digit(digit, 0));
            if (digit < x.count(1)) {
                tellDigit(x, digit, told);
            }
        }
        return told.toString();
    }

    /** The same without the length of the history and of the text, which no state holds. */
    static String state(ScannedDigits x) {
        return tells(x).replace(" " + x.count(12) + " " + x.count(13) + " / ", " / ");
    }

    private static void tellDigit(ScannedDigits x, int digit, StringBuilder told) {
        for (int what = 1; what <= 11; what++) {
            told.append(' ').append(x.digit(digit, what));
        }
        told.append(' ').append(x.duty(digit)).append(' ').append(x.steadyGlow(digit));
        for (int segment = 0; segment < 8; segment++) {
            told.append(" [");
            for (int what = 0; what <= 3; what++) {
                told.append(x.segment(digit, segment, what)).append(what < 3 ? " " : "]");
            }
        }
        told.append(" lit");
        for (int ticks = 0; ticks <= 500; ticks += 250) {
            told.append(' ').append(x.litIn(digit, ticks));
        }
    }

    static void typeAll(ScannedDigits x, String text) {
        x.clearText();
        for (int i = 0; i < text.length(); i++) {
            x.type(text.charAt(i));
        }
    }

    /** Types and shows a text in place of the one that was there. */
    static int show(ScannedDigits x, String text) {
        typeAll(x, text);
        return x.show();
    }

    /** Lets frames pass until the present one has this number. */
    static void toFrame(ScannedDigits x, int frame) {
        for (int left = frame - x.count(3); left > 0; left -= 20) {
            x.passFrames(Math.min(20, left));
        }
    }

    /** One digit, the widest slot, no guard: its segments are lit in each tick. */
    static ScannedDigits alwaysLit(int pattern) {
        ScannedDigits x = new ScannedDigits();
        x.setDigits(1);
        x.setWidth(0, 40);
        x.setGuard(0, 0);
        x.setPattern(0, pattern);
        return x;
    }

    static String patterns(ScannedDigits x) {
        StringBuilder told = new StringBuilder();
        for (int digit = 0; digit < x.count(1); digit++) {
            told.append(digit == 0 ? "" : " ").append(x.digit(digit, 0));
        }
        return told.toString();
    }
}
