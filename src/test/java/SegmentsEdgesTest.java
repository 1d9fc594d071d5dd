/** The edges that "Terms" names: segments, glow, current, wear. */
public final class SegmentsEdgesTest {
    /** The glow behind each lit tick from 0 on. */
    private static final int[] RISING = {
        250, 437, 577, 682, 761, 820, 865, 898, 923, 942, 956, 967, 975, 981, 985, 988, 991, 993,
        994, 995, 996, 997, 998, 999, 1000, 1000, 1000
    };
    /** The glow from 250 on in each tick that is not lit, by the first decay. */
    private static final int[] FALLING = {
        218, 190, 166, 145, 126, 110, 96, 83, 72, 62, 54, 47, 41, 35, 30, 26, 22, 19, 16, 13, 11, 9,
        7, 6, 5, 4, 3, 2, 1, 0, 0, 0
    };

    public static void main(String[] args) {
        segments();
        glow();
        current();
        wear();
        Sentences.end();
    }

    private static void segments() {
        Sentences.holds("A digit has eight segments, a to g and the point, told as a bit set",
            SegmentsEdgesTest::eachSegmentHasItsBit);
        Sentences.holds("The digit holds a pattern of segments, 0 at first.",
            SegmentsEdgesTest::patternsAreZeroAtFirst);
    }

    private static void glow() {
        Sentences.holds("Each segment of each digit has a glow from 0 to 1000, at first 0.",
            SegmentsEdgesTest::glowIsZeroAtFirst);
        Sentences.holds("the glow becomes glow + (1000 - glow) / 4 (at least glow + 1",
            SegmentsEdgesTest::glowRisesByOneAtLeast);
        Sentences.holds("at most 1000)", SegmentsEdgesTest::glowStaysAtItsMost);
        Sentences.holds("in each other tick it becomes glow - glow / d - 1",
            SegmentsEdgesTest::glowFalls);
        Sentences.holds("at least 0", SegmentsEdgesTest::glowStaysAtZero);
        Sentences.holds("with the decay d (2 to 50, at first 8)",
            SegmentsEdgesTest::decaysFrom2To50);
        Sentences.holds("A segment is seen if its glow is at least the threshold",
            SegmentsEdgesTest::seenAtTheThreshold);
        Sentences.holds("the threshold (1 to 1000, at first 200)",
            SegmentsEdgesTest::thresholdsFrom1To1000);
    }

    private static void current() {
        Sentences.holds("The current is a float, 0 at first.",
            SegmentsEdgesTest::currentIsZeroAtFirst);
        Sentences.holds("(n segments are lit in it, perhaps none)",
            SegmentsEdgesTest::currentOfNoneToEight);
        Sentences.holds("The peak is the greatest current so far",
            SegmentsEdgesTest::peakIsTheGreatest);
        Sentences.holds("with the current behind this tick",
            SegmentsEdgesTest::chargeTakesTheCurrentBehind);
    }

    private static void wear() {
        Sentences.holds("A segment that is lit in a tick gets one more tick of use.",
            SegmentsEdgesTest::useCountsLitTicks);
        Sentences.holds("It breaks when its use comes to its life (1 to 1000000 [..])",
            SegmentsEdgesTest::breaksAtALifeOfOne);
        Sentences.holds("[its life is] at first 100000",
            SegmentsEdgesTest::breaksAtTheFirstLife);
        Sentences.holds("the same for all", SegmentsEdgesTest::lifeIsTheSameForAll);
        Sentences.holds("it is not lit any more from the next tick on",
            SegmentsEdgesTest::notLitFromTheNextTickOn);
        Sentences.holds("its segments are whole, with the use 0; the glow is 0",
            SegmentsEdgesTest::replacedOnesAreAsNew);
        Sentences.holds("(the ticks in which it was driven stay)",
            SegmentsEdgesTest::drivenTicksStay);
    }

    // ---- segments

    private static void eachSegmentHasItsBit() {
        for (int segment = 0; segment < 8; segment++) {
            ScannedDigits x = new ScannedDigits();
            int bit = new int[] {1, 2, 4, 8, 16, 32, 64, 128}[segment];
            x.setPattern(0, bit);
            x.set(2, 1);
            Check.due("lit", x.litIn(0, 0), bit);
            x.pass(1);
            Check.due("seen", x.digit(0, 7), bit);
            Check.due("broken", x.digit(0, 8), bit);
            for (int other = 0; other < 8; other++) {
                int is = other == segment ? 1 : 0;
                Check.due("glow", x.segment(0, other, 0), 250 * is);
                Check.due("use", x.segment(0, other, 1), is);
                Check.due("is broken", x.segment(0, other, 2), is);
                Check.due("is seen", x.segment(0, other, 3), is);
            }
            Check.due("segment -1", x.segment(0, -1, 0), -1);
            Check.due("segment 8", x.segment(0, 8, 0), -1);
        }
    }

    private static void patternsAreZeroAtFirst() {
        ScannedDigits x = new ScannedDigits();
        x.setDigits(8);
        Check.dueText("all dark", Display.patterns(x), "0 0 0 0 0 0 0 0");
        Check.due("nothing is lit", x.pass(500), 0);
    }

    // ---- glow

    private static void glowIsZeroAtFirst() {
        ScannedDigits x = new ScannedDigits();
        x.setDigits(8);
        for (int digit = 0; digit < 8; digit++) {
            for (int segment = 0; segment < 8; segment++) {
                Check.due("glow", x.segment(digit, segment, 0), 0);
            }
        }
    }

    private static void glowRisesByOneAtLeast() {
        ScannedDigits x = Display.alwaysLit(1);
        for (int tick = 0; tick < 24; tick++) {
            x.pass(1);
            Check.due("glow in tick " + tick, x.segment(0, 0, 0), RISING[tick]);
        }
    }

    private static void glowStaysAtItsMost() {
        ScannedDigits x = Display.alwaysLit(255);
        x.pass(25);
        Check.due("the most", x.digit(0, 9), 8000);
        x.pass(1);
        Check.due("no more", x.digit(0, 9), 8000);
        x.pass(500);
        Check.due("for ever", x.digit(0, 9), 8000);
        x.setPattern(0, 0);
        x.pass(1);
        Check.due("it falls from it", x.digit(0, 9), 8 * (1000 - 125 - 1));
    }

    /** Segment a has the glow 250, and nothing is lit from now on. */
    private static ScannedDigits fading(int decay) {
        ScannedDigits x = Display.alwaysLit(1);
        x.set(0, decay);
        x.pass(1);
        x.setPattern(0, 0);
        return x;
    }

    private static void falls(int decay, int... due) {
        ScannedDigits x = fading(decay);
        for (int tick = 0; tick < due.length; tick++) {
            x.pass(1);
            Check.due("decay " + decay + ", tick " + tick, x.segment(0, 0, 0), due[tick]);
        }
    }

    private static void glowFalls() {
        ScannedDigits x = fading(8);
        for (int tick = 0; tick < 29; tick++) {
            x.pass(1);
            Check.due("glow in tick " + tick, x.segment(0, 0, 0), FALLING[tick]);
        }
    }

    private static void glowStaysAtZero() {
        ScannedDigits x = fading(8);
        x.pass(29);
        Check.due("one", x.segment(0, 0, 0), 1);
        for (int tick = 0; tick < 3; tick++) {
            x.pass(1);
            Check.due("none", x.segment(0, 0, 0), 0);
            Check.due("none of the others", x.digit(0, 9), 0);
        }
    }

    private static void decaysFrom2To50() {
        Check.due("at first", new ScannedDigits().count(9), 8);
        falls(2, 124, 61, 30, 14, 6, 2, 0, 0);
        falls(50, 244, 239, 234, 229, 224, 219, 214, 209, 204, 199, 195);
        ScannedDigits x = fading(50);
        x.pass(63);
        Check.due("above 50", x.segment(0, 0, 0), 51);
        x.pass(1);
        Check.due("by 2", x.segment(0, 0, 0), 49);
        x.pass(1);
        Check.due("below 50 by 1 alone", x.segment(0, 0, 0), 48);
    }

    private static void seenAtTheThreshold() {
        ScannedDigits x = Display.alwaysLit(130);
        x.pass(1);
        x.set(1, 249);
        Check.due("above", x.digit(0, 7) * 10 + x.segment(0, 7, 3), 1301);
        x.set(1, 250);
        Check.due("at it", x.digit(0, 7) * 10 + x.segment(0, 7, 3), 1301);
        x.set(1, 251);
        Check.due("below it", x.digit(0, 7) * 10 + x.segment(0, 7, 3), 0);
    }

    private static void thresholdsFrom1To1000() {
        ScannedDigits x = fading(8);
        Check.due("at first", x.count(10), 200);
        x.pass(1);
        Check.due("218 is seen at first", x.digit(0, 7), 1);
        x.pass(1);
        Check.due("190 is not seen at first", x.digit(0, 7), 0);
        x.set(1, 1);
        x.pass(27);
        Check.due("1 is seen", x.digit(0, 7), 1);
        x.pass(1);
        Check.due("0 is not seen", x.digit(0, 7), 0);
        ScannedDigits y = Display.alwaysLit(1);
        y.set(1, 1000);
        y.pass(24);
        Check.due("999 is not seen", y.digit(0, 7), 0);
        y.pass(1);
        Check.due("1000 is seen", y.digit(0, 7), 1);
    }

    // ---- current

    private static void currentIsZeroAtFirst() {
        ScannedDigits x = new ScannedDigits();
        for (int what = 0; what <= 2; what++) {
            Check.dueFloat("current " + what, x.current(what), 0f);
        }
    }

    private static void currentOfNoneToEight() {
        ScannedDigits none = Display.alwaysLit(0);
        none.pass(500);
        for (int what = 0; what <= 2; what++) {
            Check.dueFloat("of no segment", none.current(what), 0f);
        }
        ScannedDigits one = Display.alwaysLit(128);
        one.pass(1);
        Check.dueFloat("of one segment", one.current(0), 0.3125f);
        ScannedDigits all = Display.alwaysLit(255);
        all.pass(1);
        Check.dueFloat("of all segments", all.current(0), 2.5f);
        all.setPattern(0, 0);
        all.pass(1);
        Check.dueFloat("of none, behind them", all.current(0), 2.1875f);
    }

    private static void peakIsTheGreatest() {
        ScannedDigits x = Display.alwaysLit(255);
        x.pass(1);
        Check.dueFloat("the first", x.current(1), 2.5f);
        x.pass(1);
        Check.dueFloat("a greater one", x.current(1), 4.6875f);
        x.setPattern(0, 0);
        x.pass(1);
        Check.dueFloat("behind it", x.current(0), 4.1015625f);
        Check.dueFloat("it stays", x.current(1), 4.6875f);
        x.pass(500);
        Check.dueFloat("it stays for ever", x.current(1), 4.6875f);
        x.setPattern(0, 1);
        x.pass(1);
        Check.dueFloat("a small one is not greater", x.current(1), 4.6875f);
    }

    private static void chargeTakesTheCurrentBehind() {
        ScannedDigits x = Display.alwaysLit(255);
        x.pass(1);
        Check.dueFloat("the first tick", x.current(2), 2.5f * 0.001f);
        x.pass(1);
        float charge = 2.5f * 0.001f + 4.6875f * 0.001f;
        Check.dueFloat("the second tick", x.current(2), charge);
        x.setPattern(0, 0);
        x.pass(1);
        charge = charge + 4.1015625f * 0.001f;
        Check.dueFloat("a tick in which none is lit", x.current(2), charge);
    }

    // ---- wear

    private static void useCountsLitTicks() {
        ScannedDigits x = new ScannedDigits();
        x.setPattern(1, 1);
        x.pass(10);
        Check.due("ahead of its slot", x.segment(1, 0, 1), 0);
        x.pass(1);
        Check.due("its first tick", x.segment(1, 0, 1), 1);
        x.pass(8);
        Check.due("its last tick", x.segment(1, 0, 1), 9);
        x.pass(31);
        Check.due("other ticks", x.segment(1, 0, 1), 9);
        Check.due("another segment", x.segment(1, 1, 1), 0);
        Check.due("the same segment of another digit", x.segment(0, 0, 1), 0);
    }

    private static void breaksAtALifeOfOne() {
        ScannedDigits x = Display.alwaysLit(3);
        Check.due("the least", x.set(2, 1), 100000);
        Check.due("lit once", x.pass(1), 2);
        Check.due("broken", x.digit(0, 8), 3);
        Check.due("dark", x.pass(500), 0);
        ScannedDigits y = Display.alwaysLit(3);
        y.set(2, 2);
        y.pass(1);
        Check.due("ahead of its life", y.digit(0, 8), 0);
        y.pass(1);
        Check.due("at its life", y.digit(0, 8), 3);
        Check.due("the most", y.set(2, 1000000), 2);
        Check.due("told", y.count(11), 1000000);
    }

    private static void breaksAtTheFirstLife() {
        ScannedDigits x = Display.alwaysLit(64);
        for (int i = 0; i < 124; i++) {
            x.passFrames(20);
        }
        x.passFrames(19);
        x.pass(39);
        Check.due("use", x.segment(0, 6, 1), 99999);
        Check.due("whole", x.segment(0, 6, 2), 0);
        Check.due("lit once more", x.pass(1), 1);
        Check.due("use", x.segment(0, 6, 1), 100000);
        Check.due("broken", x.segment(0, 6, 2), 1);
        Check.due("dark", x.pass(1), 0);
    }

    private static void lifeIsTheSameForAll() {
        ScannedDigits x = new ScannedDigits();
        x.setDigits(8);
        x.set(2, 10);
        x.test(2);
        x.passFrames(1);
        Check.due("a tick of life is left", x.count(8), 0);
        x.passFrames(1);
        Check.due("all are broken", x.count(8), 64);
        for (int digit = 0; digit < 8; digit++) {
            for (int segment = 0; segment < 8; segment++) {
                Check.due("use", x.segment(digit, segment, 1), 10);
            }
        }
    }

    private static void notLitFromTheNextTickOn() {
        ScannedDigits x = new ScannedDigits();
        x.set(2, 3);
        x.setPattern(0, 1);
        x.pass(2);
        Check.due("to be lit once more", x.litIn(0, 0), 1);
        Check.due("lit in the tick in which it breaks", x.pass(1), 1);
        Check.due("its glow rises in it", x.segment(0, 0, 0), 577);
        Check.due("broken", x.segment(0, 0, 2), 1);
        Check.due("not to be lit", x.litIn(0, 0), 0);
        Check.due("dark", x.pass(1), 0);
        Check.due("its glow falls", x.segment(0, 0, 0), 577 - 72 - 1);
        Check.due("dark in the next frames", x.pass(500), 0);
        Check.due("its use stays", x.segment(0, 0, 1), 3);
    }

    private static void replacedOnesAreAsNew() {
        ScannedDigits x = new ScannedDigits();
        x.set(2, 3);
        x.setPattern(0, 255);
        x.pass(4);
        Check.due("broken ahead of it", x.digit(0, 8), 255);
        x.replace(0);
        for (int segment = 0; segment < 8; segment++) {
            for (int what = 0; what <= 3; what++) {
                Check.due("segment " + segment + ", " + what, x.segment(0, segment, what), 0);
            }
        }
        Check.due("lit in the next tick", x.pass(1), 8);
        Check.due("a whole life", x.pass(2) + x.pass(1), 16);
    }

    private static void drivenTicksStay() {
        ScannedDigits x = new ScannedDigits();
        x.pass(20);
        Check.due("driven", x.digit(0, 11), 9);
        x.replace(0);
        Check.due("driven, still", x.digit(0, 11), 9);
        Check.due("of all", x.count(7), 18);
        Check.dueFloat("duty", x.duty(0), 9f / 20f);
    }
}
