/** Promises 20 to 28: what is told. */
public final class TellsTest {
    public static void main(String[] args) {
        promise20Digit();
        promise20Characters();
        promise21Segment();
        promise22LitIn();
        promise22LitInFuture();
        promise23SteadyGlow();
        promise23SteadyGlowOfAll();
        promise24And25Current();
        promise26Duty();
        promise27Count();
        promise28Group();
        Check.end();
    }

    private static void promise20Digit() {
        ScannedDigits x = new ScannedDigits();
        x.set(2, 5);
        x.setWidth(0, 12);
        x.setWidth(1, 20);
        x.setGuard(1, 2);
        x.setBrightness(1, 7);
        x.setPattern(1, 134);
        x.setGroup(1, 3);
        x.pass(20);
        // Its lit part is 8: it was driven in all of it, its segments only in 5 ticks.
        int[] told = {134, 20, 2, 7, 3, 8, 12, 134, 134, 3 * 508, '1', 8};
        for (int what = 0; what < told.length; what++) {
            Check.due("digit(1, " + what + ")", x.digit(1, what), told[what]);
        }
        Check.due("slot of 3", x.digit(3, 6), 42);
        x.set(1, 508);
        Check.due("seen at the threshold", x.digit(1, 7), 134);
        x.set(1, 509);
        Check.due("seen no more", x.digit(1, 7), 0);
        Check.due("what is 12", x.digit(1, 12), -2);
        Check.due("what is -1", x.digit(1, -1), -2);
        Check.due("no digit", x.digit(4, 0), -1);
        Check.due("no digit and no what", x.digit(-1, 99), -1);
    }

    private static void promise20Characters() {
        int known = 0;
        for (int pattern = 0; pattern < 256; pattern++) {
            ScannedDigits x = new ScannedDigits();
            x.setPattern(2, pattern);
            int character = x.digit(2, 10);
            if (character == -4) {
                continue;
            }
            known++;
            Check.due("show", Display.show(x, "" + (char) character), 1);
            Check.due("pattern of " + character, x.digit(0, 0), pattern & 127);
        }
        Check.due("known patterns", known, 30);
        ScannedDigits x = new ScannedDigits();
        x.setPattern(2, 1);
        Check.due("none", x.digit(2, 10), -4);
        x.setPattern(2, 128);
        Check.due("the point alone", x.digit(2, 10), ' ');
    }

    private static void promise21Segment() {
        ScannedDigits x = new ScannedDigits();
        x.set(2, 4);
        x.setPattern(2, 130);
        x.pass(23);
        Check.due("glow", x.segment(2, 1, 0), 577);
        Check.due("use", x.segment(2, 1, 1), 3);
        Check.due("whole", x.segment(2, 1, 2), 0);
        Check.due("seen", x.segment(2, 1, 3), 1);
        Check.due("the point", x.segment(2, 7, 0), 577);
        Check.due("another", x.segment(2, 0, 0), 0);
        Check.due("another is not seen", x.segment(2, 0, 3), 0);
        x.pass(1);
        Check.due("broken", x.segment(2, 7, 2), 1);
        Check.due("broken, but seen", x.segment(2, 7, 3), 1);
        Check.due("another is whole", x.segment(2, 6, 2), 0);
        x.set(1, 682);
        Check.due("seen at the threshold", x.segment(2, 7, 3), 1);
        x.set(1, 683);
        Check.due("not seen below it", x.segment(2, 7, 3), 0);
        Check.due("what is 4", x.segment(2, 0, 4), -2);
        Check.due("what is -1", x.segment(2, 0, -1), -2);
        Check.due("no segment", x.segment(2, 8, 0), -1);
        Check.due("no segment, too", x.segment(2, -1, 4), -1);
        Check.due("no digit", x.segment(4, 0, 4), -1);
    }

    private static void promise22LitIn() {
        ScannedDigits x = new ScannedDigits();
        x.setPattern(1, 77);
        x.setPattern(3, 9);
        for (int tick = 0; tick < 80; tick++) {
            int due = tick % 40 >= 10 && tick % 40 < 19 ? 77 : 0;
            Check.due("litIn(1, " + tick + ")", x.litIn(1, tick), due);
        }
        x.pass(15);
        Check.due("from the middle", x.litIn(1, 3), 77);
        Check.due("in the guard", x.litIn(1, 4), 0);
        Check.due("the farthest", x.litIn(3, 500), 9);
        Check.due("far away", x.litIn(1, 483), 77);
        Check.due("litIn(1, 501)", x.litIn(1, 501), -2);
        Check.due("litIn(1, -1)", x.litIn(1, -1), -2);
        Check.due("litIn(4, 0)", x.litIn(4, 0), -1);
        Check.due("litIn(-1, 501)", x.litIn(-1, 501), -1);
        Check.due("nothing changes", x.count(0) * 100 + x.digit(1, 11), 1505);
        Check.due("no act", x.count(12), 3);
    }

    /** What litIn tells comes true: blinking, tests and wear in it. */
    private static void promise22LitInFuture() {
        int[][] told = new int[4][501];
        for (int digit = 0; digit < 4; digit++) {
            ScannedDigits x = withAFuture();
            for (int ticks = 0; ticks <= 500; ticks++) {
                told[digit][ticks] = x.litIn(digit, ticks);
            }
        }
        for (int ticks = 0; ticks <= 500; ticks++) {
            ScannedDigits x = withAFuture();
            int segments = ticks == 0 ? 0 : x.pass(ticks);
            for (int digit = 0; digit < 4; digit++) {
                Check.due("litIn then", x.litIn(digit, 0), told[digit][ticks]);
                for (int before = 0; before < ticks; before++) {
                    segments -= Integer.bitCount(told[digit][before]);
                }
            }
            Check.due("lit up to then", segments, 0);
        }
        ScannedDigits y = withAFuture();
        y.pass(500);
        Check.due("some broke", y.digit(0, 8), 15);
    }

    private static ScannedDigits withAFuture() {
        ScannedDigits x = new ScannedDigits();
        x.set(2, 40);
        x.setPattern(0, 15);
        x.setPattern(2, 240);
        x.setGroup(2, 1);
        x.setBlink(1, 2, 1);
        x.setBrightness(3, 4);
        x.setPattern(3, 1);
        x.pass(55);
        x.test(2);
        return x;
    }

    private static void promise23SteadyGlow() {
        ScannedDigits x = new ScannedDigits();
        Check.due("as at first", x.steadyGlow(0), steady(9, 40, 8));
        Check.due("the same for all", x.steadyGlow(3), steady(9, 40, 8));
        x.setGroup(0, 2);
        x.setBlink(2, 1, 50);
        x.passFrames(1);
        x.setPattern(0, 1);
        Check.due("whatever its group", x.steadyGlow(0), steady(9, 40, 8));
        x.setBrightness(0, 1);
        Check.due("no lit part", x.steadyGlow(0), 0);
        x.test(5);
        Check.due("without a test", x.steadyGlow(0), 0);
        x.setBrightness(0, 2);
        Check.due("one tick", x.steadyGlow(0), 250);
        Check.due("no digit", x.steadyGlow(4), -1);
        Check.due("no digit, too", x.steadyGlow(-1), -1);
    }

    private static void promise23SteadyGlowOfAll() {
        int[] widths = {4, 5, 7, 10, 23, 40};
        int[] decays = {2, 3, 8, 20, 49, 50};
        for (int digits = 1; digits <= 2; digits++) {
            for (int width : widths) {
                for (int decay : decays) {
                    ScannedDigits x = new ScannedDigits();
                    x.setDigits(digits);
                    x.setWidth(0, width);
                    x.set(0, decay);
                    for (int brightness = 0; brightness <= 15; brightness++) {
                        int lit = x.setBrightness(0, brightness);
                        int length = width + 10 * (digits - 1);
                        Check.due("steady glow of " + digits + " " + width + " " + decay + " "
                            + brightness, x.steadyGlow(0), steady(lit, length, decay));
                    }
                }
            }
        }
        ScannedDigits y = new ScannedDigits();
        y.setDigits(1);
        y.setGuard(0, 0);
        Check.due("never dark", y.steadyGlow(0), 1000);
    }

    private static int steady(int lit, int length, int decay) {
        int glow = 0;
        int before = -1;
        while (lit > 0) {
            for (int tick = 0; tick < length; tick++) {
                if (tick < lit) {
                    glow = Math.min(1000, Math.max(glow + 1, glow + (1000 - glow) / 4));
                } else {
                    glow = Math.max(0, glow - glow / decay - 1);
                }
                if (tick == lit - 1) {
                    if (glow == before) {
                        return glow;
                    }
                    before = glow;
                }
            }
        }
        return 0;
    }

    private static void promise24And25Current() {
        ScannedDigits x = new ScannedDigits();
        x.setPattern(0, 1);
        x.pass(1);
        // 2.5 * 0.125, and behind a second tick 0.3125 + (2.5 - 0.3125) * 0.125.
        Check.dueFloat("current", x.current(0), 0.3125f);
        Check.dueFloat("peak", x.current(1), 0.3125f);
        Check.dueFloat("charge", x.current(2), 0.3125f * 0.001f);
        Check.due("thousandths(0)", x.thousandths(0), 312);
        Check.due("thousandths(2)", x.thousandths(2), 0);
        x.pass(1);
        Check.dueFloat("current", x.current(0), 0.5859375f);
        Check.due("cut off", x.thousandths(0), 585);
        x.pass(20);
        Check.due("the peak stays above", x.thousandths(1) > x.thousandths(0) ? 1 : 0, 1);
        Check.due("thousandths of the peak", x.thousandths(1), (int) (x.current(1) * 1000f));
        x.passFrames(20);
        Check.due("thousandths of the charge", x.thousandths(2), (int) (x.current(2) * 1000f));
        Check.due("more than none", x.thousandths(2) > 0 ? 1 : 0, 1);
        Check.dueFloat("current(3)", x.current(3), 0f);
        Check.dueFloat("current(-1)", x.current(-1), 0f);
        Check.due("thousandths(3)", x.thousandths(3), -2);
        Check.due("thousandths(-1)", x.thousandths(-1), -2);
    }

    private static void promise26Duty() {
        ScannedDigits x = new ScannedDigits();
        Check.dueFloat("at the time 0", x.duty(0), 0f);
        x.pass(3);
        Check.dueFloat("always so far", x.duty(0), 1f);
        x.pass(4);
        x.pass(4);
        Check.dueFloat("9 of 11", x.duty(0), 9f / 11f);
        Check.dueFloat("1 of 11", x.duty(1), 1f / 11f);
        Check.dueFloat("0 of 11", x.duty(2), 0f);
        Check.dueFloat("no digit", x.duty(4), 0f);
        Check.dueFloat("no digit, too", x.duty(-1), 0f);
        x.replace(0);
        Check.dueFloat("of a replaced one", x.duty(0), 9f / 11f);
    }

    private static void promise27Count() {
        ScannedDigits x = new ScannedDigits();
        x.setDigits(3);
        x.set(0, 7);
        x.set(1, 333);
        x.set(2, 5);
        x.setWidth(1, 15);
        x.setPattern(0, 3);
        x.test(4);
        x.passFrames(2);
        x.pass(11);
        x.type('5');
        int[] told = {81, 3, 35, 4, 11, 1, 2, 2 * (9 + 14 + 9) + 9 + 1, 24, 7, 333, 5, 5, 1};
        for (int what = 0; what < told.length; what++) {
            Check.due("count(" + what + ")", x.count(what), told[what]);
        }
        x.setDigits(2);
        Check.due("driven, also one that is gone", x.count(7), 74);
        x.replace(0);
        Check.due("driven, also one that is replaced", x.count(7), 74);
        Check.due("broken", x.count(8), 8);
        Check.due("count(14)", x.count(14), -2);
        Check.due("count(-1)", x.count(-1), -2);
    }

    private static void promise28Group() {
        ScannedDigits x = new ScannedDigits();
        x.setBlink(3, 4, 2);
        x.setGroup(0, 3);
        x.setGroup(1, 3);
        Check.due("on", x.group(3, 0), 4);
        Check.due("off", x.group(3, 1), 2);
        Check.due("digits", x.group(3, 3), 2);
        Check.due("on of 0", x.group(0, 0), 0);
        Check.due("off of 0", x.group(0, 1), 0);
        Check.due("digits of 0", x.group(0, 3), 2);
        for (int frame = 0; frame < 30; frame++) {
            Check.due("0 is on", x.group(0, 2), 1);
            Check.due("1 in frame " + frame, x.group(1, 2), frame % 10 < 5 ? 1 : 0);
            Check.due("3 in frame " + frame, x.group(3, 2), frame % 6 < 4 ? 1 : 0);
            x.passFrames(1);
        }
        // Cut frames count, too.
        for (int cut = 0; cut < 6; cut++) {
            x.setWidth(0, 20 + cut);
        }
        Check.due("behind 36 frames", x.group(1, 2), 0);
        x.setDigits(1);
        Check.due("digits that are left", x.group(3, 3) * 10 + x.group(0, 3), 10);
        Check.due("what is 4", x.group(3, 4), -2);
        Check.due("what is -1", x.group(0, -1), -2);
        Check.due("no group", x.group(4, 0), -1);
        Check.due("no group and no what", x.group(-1, 4), -1);
    }
}
