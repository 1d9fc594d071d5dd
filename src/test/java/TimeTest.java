/** Promises 12 and 13, and what happens in a tick: lighting, glow, current, wear, blinking. */
public final class TimeTest {
    public static void main(String[] args) {
        promise12Pass();
        promise12Slots();
        promise12Glow();
        promise12GlowEdges();
        promise12Current();
        promise12Wear();
        promise13PassFrames();
        promise13LongestRun();
        Check.end();
    }

    private static void promise12Pass() {
        ScannedDigits x = new ScannedDigits();
        x.setPattern(0, 7);
        x.setPattern(1, 1);
        Check.due("pass(1)", x.pass(1), 3);
        Check.due("pass(9)", x.pass(9), 24);
        Check.due("pass(10)", x.pass(10), 9);
        Check.due("pass(20)", x.pass(20), 0);
        Check.due("time", x.count(0), 40);
        Check.due("pass(500)", x.pass(500), 12 * 36 + 27 + 9);
        Check.due("time then", x.count(0), 540);
        Check.due("frame", x.count(3), 13);
        Check.due("ticks of it", x.count(4), 20);
        Check.due("pass(0)", x.pass(0), -2);
        Check.due("pass(501)", x.pass(501), -2);
        Check.due("pass(-1)", x.pass(-1), -2);
        Check.due("time stays", x.count(0), 540);
        Check.due("also driven if none is lit", x.count(7), 13 * 36 + 18);
    }

    private static void promise12Slots() {
        ScannedDigits x = new ScannedDigits();
        x.setDigits(3);
        x.setWidth(0, 4);
        x.setWidth(1, 6);
        x.setGuard(1, 3);
        x.setBrightness(2, 5);
        for (int digit = 0; digit < 3; digit++) {
            x.setPattern(digit, 1 << digit);
        }
        // Widths 4, 6, 10 and lit parts 3, 3, 3.
        int[] lit = {1, 1, 1, 0, 2, 2, 2, 0, 0, 0, 4, 4, 4, 0, 0, 0, 0, 0, 0, 0};
        int[] slots = {0, 0, 0, 0, 1, 1, 1, 1, 1, 1, 2, 2, 2, 2, 2, 2, 2, 2, 2, 2};
        for (int tick = 0; tick < 20; tick++) {
            Check.due("slot of tick " + tick, x.count(5), slots[tick]);
            int seen = x.litIn(0, 0) | x.litIn(1, 0) | x.litIn(2, 0);
            Check.due("lit in tick " + tick, seen, lit[tick]);
            Check.due("pass in tick " + tick, x.pass(1), lit[tick] == 0 ? 0 : 1);
        }
        Check.due("the next frame", x.count(5) * 10 + x.count(4), 0);
        Check.due("frames", x.count(3), 4);
        for (int digit = 0; digit < 3; digit++) {
            Check.due("driven", x.digit(digit, 11), 3);
            Check.due("use", x.segment(digit, digit, 1), 3);
        }
    }

    private static void promise12Glow() {
        ScannedDigits x = new ScannedDigits();
        x.setPattern(0, 1);
        int[] rising = {250, 437, 577, 682, 761, 820, 865, 898, 923};
        for (int i = 0; i < rising.length; i++) {
            x.pass(1);
            Check.due("rising " + i, x.segment(0, 0, 0), rising[i]);
        }
        int[] falling = {807, 706, 617, 539, 471, 412, 360, 314, 274, 239, 209, 182};
        for (int i = 0; i < falling.length; i++) {
            x.pass(1);
            Check.due("falling " + i, x.segment(0, 0, 0), falling[i]);
            Check.due("seen " + i, x.segment(0, 0, 3), falling[i] >= 200 ? 1 : 0);
        }
        Check.due("other segments", x.digit(0, 9), 182);
        Check.due("other digits", x.digit(1, 9) + x.digit(2, 9) + x.digit(3, 9), 0);
    }

    private static void promise12GlowEdges() {
        ScannedDigits x = new ScannedDigits();
        x.setDigits(1);
        x.setWidth(0, 40);
        x.setGuard(0, 0);
        x.setPattern(0, 1);
        x.pass(19);
        // Above 996 a quarter of the rest is 0: it rises by 1, to 1000 at most.
        int glow = x.segment(0, 0, 0);
        Check.due("near the end", glow, 994);
        int[] rising = {995, 996, 997, 998, 999, 1000, 1000, 1000};
        for (int i = 0; i < rising.length; i++) {
            x.pass(1);
            Check.due("rising " + i, x.segment(0, 0, 0), rising[i]);
        }
        x.setPattern(0, 0);
        x.pass(1);
        Check.due("from 1000", x.segment(0, 0, 0), 1000 - 125 - 1);
        x.pass(60);
        Check.due("at least 0", x.segment(0, 0, 0), 0);
    }

    private static void promise12Current() {
        ScannedDigits x = new ScannedDigits();
        x.setPattern(0, 255);
        x.setPattern(2, 3);
        float current = 0;
        float peak = 0;
        float charge = 0;
        for (int tick = 0; tick < 120; tick++) {
            int inFrame = tick % 40;
            int lit = inFrame < 9 ? 8 : inFrame >= 20 && inFrame < 29 ? 2 : 0;
            current = current + (lit * 2.5f - current) * 0.125f;
            peak = current > peak ? current : peak;
            charge = charge + current * 0.001f;
            x.pass(1);
            Check.dueFloat("current in tick " + tick, x.current(0), current);
            Check.dueFloat("peak in tick " + tick, x.current(1), peak);
            Check.dueFloat("charge in tick " + tick, x.current(2), charge);
        }
    }

    private static void promise12Wear() {
        ScannedDigits x = new ScannedDigits();
        x.set(2, 12);
        x.setPattern(0, 5);
        Check.due("first frame", x.pass(40), 18);
        Check.due("use", x.segment(0, 2, 1), 9);
        Check.due("whole", x.count(8), 0);
        Check.due("lit to the life", x.pass(3), 6);
        Check.due("broken behind it", x.digit(0, 8), 5);
        Check.due("of all", x.count(8), 2);
        int glow = x.segment(0, 0, 0);
        Check.due("dark", x.pass(1), 0);
        Check.due("the glow dies away", x.segment(0, 0, 0), glow - glow / 8 - 1);
        Check.due("use stays", x.segment(0, 0, 1), 12);
        Check.due("driven", x.digit(0, 11), 9 + 4);
        Check.due("others are whole", x.segment(0, 1, 2), 0);
    }

    private static void promise13PassFrames() {
        ScannedDigits x = new ScannedDigits();
        Check.due("a whole frame", x.passFrames(1), 40);
        Check.due("frame", x.count(3) * 100 + x.count(4), 100);
        x.pass(39);
        Check.due("the last tick", x.passFrames(1), 80);
        x.pass(1);
        Check.due("the rest", x.passFrames(1), 120);
        x.pass(15);
        Check.due("the rest and more", x.passFrames(20), 120 + 20 * 40);
        Check.due("frames", x.count(3) * 100 + x.count(4), 2300);
        Check.due("passFrames(0)", x.passFrames(0), -2);
        Check.due("passFrames(21)", x.passFrames(21), -2);
        Check.due("passFrames(-5)", x.passFrames(-5), -2);
        Check.due("time stays", x.count(0), 920);
        x.setPattern(3, 1);
        x.test(2);
        x.pass(10);
        x.passFrames(2);
        Check.due("test is over", x.count(6), 0);
        Check.due("driven", x.digit(3, 11), 9 * 25);
        Check.due("use of a", x.segment(3, 0, 1), 18);
        Check.due("use of b", x.segment(3, 1, 1), 18);
        Check.due("is an act", x.count(12), 5);
        x.undo();
        Check.due("undone", x.count(0), 930);
    }

    /** As much time as an object can come to in its calls. */
    private static void promise13LongestRun() {
        ScannedDigits x = new ScannedDigits();
        x.setDigits(8);
        for (int digit = 0; digit < 8; digit++) {
            x.setWidth(digit, 40);
            x.setPattern(digit, 255);
        }
        x.set(2, 1000000);
        int time = 0;
        for (int i = 0; i < 480; i++) {
            time = x.passFrames(20);
        }
        Check.due("time", time, 480 * 20 * 320);
        Check.due("use", x.segment(7, 7, 1), 480 * 20 * 39);
        Check.due("driven", x.count(7), 480 * 20 * 39 * 8);
        Check.due("frame", x.count(3), 480 * 20 + 9);
        Check.due("charge", x.thousandths(2), (int) (x.current(2) * 1000f));
    }
}
