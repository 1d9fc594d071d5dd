/**
 * Each call that is refused: the error that is due, in the order of the Returns line, and that
 * nothing has changed behind it.
 */
public final class RefusedEdgesTest {
    private interface DigitCall {
        int call(ScannedDigits x, int digit, int value);
    }

    private interface Call {
        int call(ScannedDigits x, int value);
    }

    public static void main(String[] args) {
        settings();
        timeTextsAndHistory();
        tells();
        Sentences.end();
    }

    private static void settings() {
        Sentences.holds("2: BAD_VALUE",
            () -> badValue("setDigits", ScannedDigits::setDigits, 1, 8));
        Sentences.holds("3: UNKNOWN; BAD_VALUE",
            () -> ofADigit("setWidth", ScannedDigits::setWidth, 4, 40, -2));
        Sentences.holds("4: UNKNOWN; BAD_VALUE",
            () -> ofADigit("setGuard", ScannedDigits::setGuard, 0, 3, -2));
        Sentences.holds("5: UNKNOWN; BAD_VALUE",
            () -> ofADigit("setBrightness", ScannedDigits::setBrightness, 0, 15, -2));
        Sentences.holds("6: UNKNOWN; BAD_VALUE",
            () -> ofADigit("setPattern", ScannedDigits::setPattern, 0, 255, -2));
        Sentences.holds("7: UNKNOWN for both",
            () -> ofADigit("setGroup", ScannedDigits::setGroup, 0, 3, -1));
        Sentences.holds("8: UNKNOWN; [..]", RefusedEdgesTest::setBlinkUnknown);
        Sentences.holds("8: BAD_VALUE", RefusedEdgesTest::setBlinkBadValue);
        Sentences.holds("9: UNKNOWN; [..]", RefusedEdgesTest::setUnknown);
        Sentences.holds("9: BAD_VALUE", RefusedEdgesTest::setBadValue);
        Sentences.holds("10: UNKNOWN", () -> unknownDigit("replace", (x, d, v) -> x.replace(d), 0));
        Sentences.holds("11: BAD_VALUE", () -> badValue("test", ScannedDigits::test, 0, 50));
    }

    private static void timeTextsAndHistory() {
        Sentences.holds("12: BAD_VALUE", () -> badValue("pass", ScannedDigits::pass, 1, 500));
        Sentences.holds("13: BAD_VALUE",
            () -> badValue("passFrames", ScannedDigits::passFrames, 1, 20));
        Sentences.holds("14: FULL", RefusedEdgesTest::typeFull);
        Sentences.holds("16: -100 minus the fault (which is an error)",
            RefusedEdgesTest::showFault);
        Sentences.holds("17: NONE", RefusedEdgesTest::undoNone);
        Sentences.holds("18: UNKNOWN", () -> unknown("keep", ScannedDigits::keep, 0, 1));
        Sentences.holds("19: UNKNOWN; [..]",
            () -> unknown("restore", ScannedDigits::restore, 0, 1));
        Sentences.holds("19: NONE", RefusedEdgesTest::restoreNone);
    }

    private static void tells() {
        Sentences.holds("20: UNKNOWN; BAD_VALUE",
            () -> ofADigit("digit", ScannedDigits::digit, 0, 11, -2));
        Sentences.holds("NONE is returned only if no error applies.",
            () -> unknownDigit("digit", ScannedDigits::digit, 10));
        Sentences.holds("21: UNKNOWN; [..]", RefusedEdgesTest::segmentUnknown);
        Sentences.holds("21: BAD_VALUE", RefusedEdgesTest::segmentBadValue);
        Sentences.holds("22: UNKNOWN; BAD_VALUE",
            () -> ofADigit("litIn", ScannedDigits::litIn, 0, 500, -2));
        Sentences.holds("23: UNKNOWN",
            () -> unknownDigit("steadyGlow", (x, d, v) -> x.steadyGlow(d), 0));
        Sentences.holds("24: 0 if what is out of range",
            () -> outOfRange("current", RefusedEdgesTest::currentBits, 0, 2, 0));
        Sentences.holds("25: BAD_VALUE",
            () -> badValue("thousandths", ScannedDigits::thousandths, 0, 2));
        Sentences.holds("26: 0 if [..] there is no such digit", RefusedEdgesTest::dutyOfNoDigit);
        Sentences.holds("27: BAD_VALUE", () -> badValue("count", ScannedDigits::count, 0, 13));
        Sentences.holds("28: UNKNOWN; [..]", RefusedEdgesTest::groupUnknown);
        Sentences.holds("28: BAD_VALUE", RefusedEdgesTest::groupBadValue);
    }

    /** Numbers just outside of the range, and far away. */
    private static int[] outside(int least, int most) {
        return new int[] {least - 1, most + 1, Refusals.FAR[0], Refusals.FAR[1]};
    }

    /** Numbers at the ends of the range and just outside of it, and far away. */
    private static int[] any(int least, int most) {
        return new int[] {least, most, least - 1, most + 1, Refusals.FAR[0], Refusals.FAR[1]};
    }

    private static void outOfRange(String name, Call call, int least, int most, int due) {
        for (int value : outside(least, most)) {
            Refusals.refused(name + "(" + value + ")", due, x -> call.call(x, value));
        }
    }

    private static void badValue(String name, Call call, int least, int most) {
        outOfRange(name, call, least, most, -2);
    }

    private static void unknown(String name, Call call, int least, int most) {
        outOfRange(name, call, least, most, -1);
    }

    private static void unknownDigit(String name, DigitCall call, int value) {
        String told = "(.., " + value + ") of ";
        for (int far : Refusals.FAR) {
            Refusals.refused(name + told + far, -1, x -> call.call(x, far, value));
        }
        Refusals.refused(name + told + "digit -1", -1, x -> call.call(x, -1, value));
        Refusals.refused(name + told + "the digit behind the last", -1,
            x -> call.call(x, x.count(1), value));
    }

    /** UNKNOWN for a digit goes ahead of the error for the other argument. */
    private static void ofADigit(String name, DigitCall call, int least, int most, int due) {
        for (int value : any(least, most)) {
            unknownDigit(name, call, value);
        }
        for (int value : outside(least, most)) {
            Refusals.refused(name + "(0, " + value + ")", due, x -> call.call(x, 0, value));
            Refusals.refused(name + "(last, " + value + ")", due,
                x -> call.call(x, x.count(1) - 1, value));
        }
    }

    // ---- settings

    private static void setBlinkUnknown() {
        for (int group : outside(1, 3)) {
            for (int on : new int[] {1, 50, 0, 51}) {
                for (int off : new int[] {0, 50, -1, 51}) {
                    Refusals.refused("setBlink(" + group + ", " + on + ", " + off + ")", -1,
                        x -> x.setBlink(group, on, off));
                }
            }
        }
    }

    private static void setBlinkBadValue() {
        for (int group : new int[] {1, 3}) {
            for (int on : outside(1, 50)) {
                for (int off : any(0, 50)) {
                    Refusals.refused("setBlink(" + group + ", " + on + ", " + off + ")", -2,
                        x -> x.setBlink(group, on, off));
                }
            }
            for (int off : outside(0, 50)) {
                for (int on : new int[] {1, 50}) {
                    Refusals.refused("setBlink(" + group + ", " + on + ", " + off + ")", -2,
                        x -> x.setBlink(group, on, off));
                }
            }
        }
    }

    private static void setUnknown() {
        for (int what : outside(0, 2)) {
            for (int value : new int[] {0, 1, 2, 50, 1000, 1000000, 1000001}) {
                Refusals.refused("set(" + what + ", " + value + ")", -1, x -> x.set(what, value));
            }
        }
    }

    private static void setBadValue() {
        int[] least = {2, 1, 1};
        int[] most = {50, 1000, 1000000};
        for (int what = 0; what <= 2; what++) {
            int setting = what;
            badValue("set " + what, (x, value) -> x.set(setting, value), least[what], most[what]);
        }
    }

    // ---- texts and history

    private static void typeFull() {
        for (char character : new char[] {'1', '.', 'x', 0, 65535}) {
            Refusals.refusedBy(Refusals::full, "type " + (int) character, -3,
                x -> x.type(character));
        }
    }

    private static void showFault() {
        Refusals.refusedBy(Refusals::full, "show, nine digits", -116, x -> x.show());
        Refusals.refusedBy(Refusals::tested, "show, four digits", -103, x -> x.show());
        Refusals.refusedBy(() -> typed("x"), "show, not allowed", -100, x -> x.show());
        Refusals.refusedBy(() -> typed("1.2.3.4.."), "show, a point", -108, x -> x.show());
    }

    private static ScannedDigits typed(String text) {
        ScannedDigits x = new ScannedDigits();
        x.setPattern(0, 129);
        x.pass(3);
        Display.typeAll(x, text);
        return x;
    }

    private static void undoNone() {
        Refusals.refusedBy(ScannedDigits::new, "undo of nothing", -4, x -> x.undo());
        Refusals.refusedBy(RefusedEdgesTest::undone, "undo of no more", -4, x -> x.undo());
    }

    /** An empty history, with states that are dropped, a text and a snapshot. */
    private static ScannedDigits undone() {
        ScannedDigits x = new ScannedDigits();
        for (int act = 1; act <= 7; act++) {
            x.setPattern(0, act);
            x.pass(act);
        }
        x.keep(0);
        Display.typeAll(x, "12");
        for (int undo = 0; undo < 5; undo++) {
            x.undo();
        }
        return x;
    }

    private static void restoreNone() {
        Refusals.refusedBy(ScannedDigits::new, "restore(0) of none", -4, x -> x.restore(0));
        Refusals.refusedBy(ScannedDigits::new, "restore(1) of none", -4, x -> x.restore(1));
        Refusals.refusedBy(Refusals::tested, "restore(0), only 1 is kept", -4, x -> x.restore(0));
        Refusals.refusedBy(RefusedEdgesTest::undone, "restore(1), only 0 is kept", -4,
            x -> x.restore(1));
    }

    // ---- what is told

    private static void segmentUnknown() {
        for (int segment : any(0, 7)) {
            for (int what : new int[] {0, 3, -1, 4}) {
                unknownDigit("segment " + segment, (x, d, v) -> x.segment(d, segment, v), what);
            }
        }
        for (int segment : outside(0, 7)) {
            for (int what : any(0, 3)) {
                Refusals.refused("segment(0, " + segment + ", " + what + ")", -1,
                    x -> x.segment(0, segment, what));
            }
        }
    }

    private static void segmentBadValue() {
        badValue("segment 0", (x, what) -> x.segment(0, 0, what), 0, 3);
        badValue("segment 7", (x, what) -> x.segment(x.count(1) - 1, 7, what), 0, 3);
    }

    private static int currentBits(ScannedDigits x, int what) {
        return Float.floatToIntBits(x.current(what));
    }

    private static void dutyOfNoDigit() {
        int none = Float.floatToIntBits(0f);
        for (int far : Refusals.FAR) {
            Refusals.refused("duty(" + far + ")", none, x -> Float.floatToIntBits(x.duty(far)));
        }
        Refusals.refused("duty(-1)", none, x -> Float.floatToIntBits(x.duty(-1)));
        Refusals.refused("duty of the digit behind the last", none,
            x -> Float.floatToIntBits(x.duty(x.count(1))));
    }

    private static void groupUnknown() {
        for (int group : outside(0, 3)) {
            for (int what : any(0, 3)) {
                Refusals.refused("group(" + group + ", " + what + ")", -1,
                    x -> x.group(group, what));
            }
        }
    }

    private static void groupBadValue() {
        badValue("group 0", (x, what) -> x.group(0, what), 0, 3);
        badValue("group 3", (x, what) -> x.group(3, what), 0, 3);
    }
}
