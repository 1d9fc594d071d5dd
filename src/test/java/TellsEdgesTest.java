/** The edges of promises 20 to 28: what is told, at its least and at its most. */
public final class TellsEdgesTest {
    public static void main(String[] args) {
        digit();
        segment();
        litInAndSteadyGlow();
        currentAndDuty();
        count();
        group();
        Sentences.end();
    }

    private static void digit() {
        Sentences.holds("20: 0 for its pattern, 1 for its width, 2 for its guard, 3 for its"
            + " brightness, 4 for its group", TellsEdgesTest::settingsAtTheirEnds);
        Sentences.holds("20: 5 for its lit part", TellsEdgesTest::litPartsAtTheirEnds);
        Sentences.holds("20: 6 for where its slot begins in a frame",
            TellsEdgesTest::slotsAtTheirEnds);
        Sentences.holds("20: 7 for the segments that are seen, 8 for the broken ones (bit sets)",
            TellsEdgesTest::bitSetsAtTheirEnds);
        Sentences.holds("20: 9 for the sum of the glow of its segments",
            TellsEdgesTest::sumsAtTheirEnds);
        Sentences.holds("20: 10 for the character of its pattern without the point (its code)",
            TellsEdgesTest::charactersWithoutThePoint);
        Sentences.holds("20: NONE if there is none in the table",
            TellsEdgesTest::patternsWithoutACharacter);
        Sentences.holds("20: 11 for the ticks in which it was driven",
            TellsEdgesTest::drivenTicksFromZero);
    }

    private static void segment() {
        Sentences.holds("21: segment: 0 for a to 7 for the point",
            TellsEdgesTest::segmentsFrom0To7);
        Sentences.holds("21: 0 for its glow, 1 for its use, 2 for whether it is broken, 3 for"
            + " whether it is seen", TellsEdgesTest::propertiesOfASegment);
    }

    private static void litInAndSteadyGlow() {
        Sentences.holds("22: ticks: 0 for the next tick", TellsEdgesTest::litInTheNextTick);
        Sentences.holds("22: up to 500", TellsEdgesTest::litIn500Ticks);
        Sentences.holds("22: (segments that break by then are not lit)",
            TellsEdgesTest::litInBehindABreak);
        Sentences.holds("22: in a tick of the future [behind the end of a frame, on or off]",
            TellsEdgesTest::litInAnotherFrame);
        Sentences.holds("22: in a tick of the future [behind the end of a test]",
            TellsEdgesTest::litInBehindATest);
        Sentences.holds("22: Tells which segments would be lit [and changes nothing]",
            TellsEdgesTest::litInChangesNothing);
        Sentences.holds("23: Returns the glow, 0 if its lit part is 0",
            TellsEdgesTest::steadyGlowWithoutALitPart);
        Sentences.holds("23: if it was lit in the lit parts of all its slots for ever",
            TellsEdgesTest::steadyGlowFromLeastToMost);
        Sentences.holds("23: (whatever group it belongs to, without a test)",
            TellsEdgesTest::steadyGlowTakesNoGroupAndTest);
        Sentences.holds("23: frames as they are now follow each other",
            TellsEdgesTest::steadyGlowOfFramesAsTheyAre);
        Sentences.holds("23: each with the lit part first and all other ticks behind it, the first"
            + " one begins with the glow 0", TellsEdgesTest::steadyGlowBeginsWithTheLitPart);
        Sentences.holds("23: behind the lit part of the first frame for which it is the same as in"
            + " the frame before", TellsEdgesTest::steadyGlowIsTheFirstThatStays);
    }

    private static void currentAndDuty() {
        Sentences.holds("24: 0 for the current, 1 for the peak, 2 for the charge",
            TellsEdgesTest::currentsAreTold);
        Sentences.holds("24: 0 if what is out of range", TellsEdgesTest::currentOutOfRange);
        Sentences.holds("25: Returns the number times 1000 (a float operation), cut off to a whole"
            + " number (towards zero)", TellsEdgesTest::thousandthsAreCutOff);
        Sentences.holds("26: the ticks in which it was driven divided by the time, both as floats",
            TellsEdgesTest::dutyFromNoneToAll);
        Sentences.holds("26: 0 if the time is 0", TellsEdgesTest::dutyAtTheTimeZero);
        Sentences.holds("26: or there is no such digit", TellsEdgesTest::dutyOfNoDigit);
    }

    private static void count() {
        Sentences.holds("27: 0 for the time", TellsEdgesTest::timeFromZero);
        Sentences.holds("27: 1 for the number of digits, 2 for the length of a frame",
            TellsEdgesTest::digitsAndLengths);
        Sentences.holds("27: 3 for the number of the present frame, 4 for the ticks of it that"
            + " have passed", TellsEdgesTest::framesAndTheirTicks);
        Sentences.holds("27: 5 for the digit in whose slot the next tick lies",
            TellsEdgesTest::slotOfTheNextTick);
        Sentences.holds("27: 6 for the frames that are left of the test (0 if it does not run)",
            TellsEdgesTest::framesLeftOfATest);
        Sentences.holds("27: 7 for all ticks in which a digit was driven (also one that is gone)",
            TellsEdgesTest::allDrivenTicks);
        Sentences.holds("27: 8 for all broken segments", TellsEdgesTest::allBrokenSegments);
        Sentences.holds("27: 9 to 11 for the settings 0 to 2", TellsEdgesTest::settingsAreTold);
        Sentences.holds("27: 12 for the states in the history, 13 for the length of the text",
            TellsEdgesTest::statesAndLengths);
    }

    private static void group() {
        Sentences.holds("28: 0 for on, 1 for off (both 0 for the group 0)",
            TellsEdgesTest::onAndOff);
        Sentences.holds("28: 2 for whether it is on in the present frame (1, otherwise 0)",
            TellsEdgesTest::onInThePresentFrame);
        Sentences.holds("28: 3 for the number of its digits", TellsEdgesTest::digitsOfAGroup);
    }

    // ---- digit

    private static void settingsAtTheirEnds() {
        ScannedDigits x = new ScannedDigits();
        int[] most = {255, 40, 3, 15, 3};
        int[] least = {0, 4, 0, 0, 0};
        for (int digit = 0; digit < 4; digit++) {
            int[] due = (digit & 1) == 0 ? most : least;
            x.setPattern(digit, due[0]);
            x.setWidth(digit, due[1]);
            x.setGuard(digit, due[2]);
            x.setBrightness(digit, due[3]);
            x.setGroup(digit, due[4]);
        }
        for (int digit = 0; digit < 4; digit++) {
            for (int what = 0; what <= 4; what++) {
                Check.due("digit " + digit + ", " + what, x.digit(digit, what),
                    (digit & 1) == 0 ? most[what] : least[what]);
            }
        }
    }

    private static void litPartsAtTheirEnds() {
        ScannedDigits x = new ScannedDigits();
        Check.due("at first", x.digit(0, 5), 9);
        x.setBrightness(0, 0);
        Check.due("none", x.digit(0, 5), 0);
        x.setWidth(1, 4);
        x.setGuard(1, 3);
        Check.due("one", x.digit(1, 5), 1);
        x.setBrightness(1, 14);
        Check.due("below one", x.digit(1, 5), 0);
        x.setWidth(2, 40);
        x.setGuard(2, 0);
        Check.due("the most", x.digit(2, 5), 40);
        x.setBrightness(2, 14);
        Check.due("37.3", x.digit(2, 5), 37);
        x.test(1);
        Check.due("of its own brightness, in a test too", x.digit(2, 5), 37);
    }

    private static void slotsAtTheirEnds() {
        ScannedDigits x = new ScannedDigits();
        x.setDigits(8);
        for (int digit = 0; digit < 7; digit++) {
            x.setWidth(digit, 40);
        }
        x.setWidth(7, 4);
        for (int digit = 0; digit < 8; digit++) {
            Check.due("slot of " + digit, x.digit(digit, 6), 40 * digit);
        }
        x.pass(100);
        Check.due("whatever the tick is", x.digit(0, 6) + x.digit(7, 6), 280);
    }

    private static void bitSetsAtTheirEnds() {
        ScannedDigits x = Display.alwaysLit(255);
        x.set(2, 1);
        Check.due("none is seen", x.digit(0, 7), 0);
        Check.due("none is broken", x.digit(0, 8), 0);
        x.pass(1);
        Check.due("all are seen", x.digit(0, 7), 255);
        Check.due("all are broken", x.digit(0, 8), 255);
        x.pass(2);
        Check.due("seen no more", x.digit(0, 7), 0);
        Check.due("broken for ever", x.digit(0, 8), 255);
    }

    private static void sumsAtTheirEnds() {
        ScannedDigits x = Display.alwaysLit(255);
        Check.due("none", x.digit(0, 9), 0);
        x.pass(1);
        Check.due("of eight", x.digit(0, 9), 2000);
        x.pass(24);
        Check.due("the most", x.digit(0, 9), 8000);
        ScannedDigits y = Display.alwaysLit(129);
        y.pass(1);
        Check.due("the first and the last", y.digit(0, 9), 500);
    }

    private static void charactersWithoutThePoint() {
        ScannedDigits x = new ScannedDigits();
        Check.due("no segment", x.digit(0, 10), 32);
        for (int i = 0; i < Display.BITS.length; i++) {
            x.setPattern(0, Display.BITS[i]);
            Check.due("character", x.digit(0, 10), Display.TABLE.charAt(i));
            x.setPattern(0, Display.BITS[i] + 128);
            Check.due("with the point", x.digit(0, 10), Display.TABLE.charAt(i));
        }
    }

    private static void patternsWithoutACharacter() {
        boolean[] isKnown = new boolean[128];
        for (int pattern : Display.BITS) {
            isKnown[pattern] = true;
        }
        ScannedDigits x = new ScannedDigits();
        for (int pattern = 0; pattern < 128; pattern++) {
            x.setPattern(3, pattern);
            int told = x.digit(3, 10);
            Check.due("pattern " + pattern, told == -4 ? 0 : 1, isKnown[pattern] ? 1 : 0);
        }
        ScannedDigits y = new ScannedDigits();
        for (int pattern = 128; pattern < 256; pattern++) {
            y.setPattern(3, pattern);
            int told = y.digit(3, 10);
            Check.due("pattern " + pattern, told == -4 ? 0 : 1, isKnown[pattern - 128] ? 1 : 0);
        }
    }

    private static void drivenTicksFromZero() {
        ScannedDigits x = new ScannedDigits();
        Check.due("none", x.digit(0, 11), 0);
        x.pass(1);
        Check.due("one", x.digit(0, 11), 1);
        x.pass(39);
        Check.due("of a frame", x.digit(0, 11) + x.digit(3, 11), 18);
        ScannedDigits y = Display.alwaysLit(0);
        y.pass(500);
        Check.due("all", y.digit(0, 11), 500);
    }

    // ---- segment

    private static void segmentsFrom0To7() {
        ScannedDigits x = Display.alwaysLit(129);
        x.pass(1);
        for (int segment = 0; segment < 8; segment++) {
            Check.due("glow of " + segment, x.segment(0, segment, 0),
                segment == 0 || segment == 7 ? 250 : 0);
        }
        Check.due("segment -1", x.segment(0, -1, 0), -1);
        Check.due("segment 8", x.segment(0, 8, 0), -1);
    }

    private static void propertiesOfASegment() {
        ScannedDigits x = Display.alwaysLit(128);
        x.set(2, 2);
        int[][] due = {{0, 0, 0, 0}, {250, 1, 0, 1}, {437, 2, 1, 1}, {382, 2, 1, 1},
            {334, 2, 1, 1}, {292, 2, 1, 1}, {255, 2, 1, 1}, {223, 2, 1, 1}, {195, 2, 1, 0}};
        for (int tick = 0; tick < due.length; tick++) {
            for (int what = 0; what <= 3; what++) {
                Check.due("tick " + tick + ", " + what, x.segment(0, 7, what), due[tick][what]);
                Check.due("another, tick " + tick, x.segment(0, 0, what), 0);
            }
            x.pass(1);
        }
    }

    // ---- litIn and steadyGlow

    private static void litInTheNextTick() {
        ScannedDigits x = new ScannedDigits();
        x.setPattern(0, 129);
        Check.due("the first tick", x.litIn(0, 0), 129);
        Check.due("of another digit", x.litIn(1, 0), 0);
        x.pass(8);
        Check.due("the last lit one", x.litIn(0, 0), 129);
        x.pass(1);
        Check.due("the guard", x.litIn(0, 0), 0);
        x.pass(30);
        Check.due("the last tick of the frame", x.litIn(0, 0), 0);
        Check.due("the tick behind it", x.litIn(0, 1), 129);
    }

    private static void litIn500Ticks() {
        ScannedDigits x = new ScannedDigits();
        x.setPattern(2, 77);
        // The tick 500 is 20 ticks behind the begin of a frame: the first one of the slot.
        Check.due("500", x.litIn(2, 500), 77);
        Check.due("499", x.litIn(2, 499), 0);
        Check.due("of another digit", x.litIn(1, 500), 0);
        x.pass(8);
        Check.due("the last lit one", x.litIn(2, 500), 77);
        x.pass(1);
        Check.due("the guard", x.litIn(2, 500), 0);
        Check.due("501", x.litIn(2, 501), -2);
        Check.due("-1", x.litIn(2, -1), -2);
    }

    private static void litInBehindABreak() {
        ScannedDigits x = new ScannedDigits();
        x.setPattern(0, 3);
        x.set(2, 11);
        Check.due("the first frame", x.litIn(0, 8), 3);
        Check.due("use 10", x.litIn(0, 40), 3);
        Check.due("use 11, the last", x.litIn(0, 41), 3);
        Check.due("broken by then", x.litIn(0, 42), 0);
        Check.due("in the next frames", x.litIn(0, 80), 0);
        x.pass(1);
        x.setPattern(0, 2);
        x.pass(1);
        x.setPattern(0, 3);
        Check.due("both", x.litIn(0, 39), 3);
        Check.due("one is broken by then", x.litIn(0, 40), 1);
        Check.due("both are broken by then", x.litIn(0, 41), 0);
    }

    private static void litInAnotherFrame() {
        ScannedDigits x = new ScannedDigits();
        x.setPattern(0, 5);
        x.setGroup(0, 1);
        x.setBlink(1, 2, 1);
        Check.due("on", x.litIn(0, 0), 5);
        Check.due("on, the next frame", x.litIn(0, 48), 5);
        Check.due("off", x.litIn(0, 80), 0);
        Check.due("off, its last tick", x.litIn(0, 88), 0);
        Check.due("on again", x.litIn(0, 120), 5);
        x.pass(80);
        Check.due("off now", x.litIn(0, 0), 0);
        Check.due("on then", x.litIn(0, 40), 5);
    }

    private static void litInBehindATest() {
        ScannedDigits x = new ScannedDigits();
        x.setPattern(0, 5);
        x.setBrightness(3, 0);
        x.pass(5);
        x.test(2);
        Check.due("in the rest of the frame", x.litIn(3, 33), 255);
        Check.due("its guard", x.litIn(3, 34), 0);
        Check.due("in the second frame", x.litIn(0, 35), 255);
        Check.due("in its last lit tick", x.litIn(3, 73), 255);
        Check.due("behind it", x.litIn(0, 75), 5);
        Check.due("behind it, no brightness", x.litIn(3, 105), 0);
    }

    private static void litInChangesNothing() {
        ScannedDigits x = Display.alwaysLit(255);
        ScannedDigits same = Display.alwaysLit(255);
        x.set(2, 100);
        same.set(2, 100);
        x.test(3);
        same.test(3);
        for (int ticks : new int[] {0, 1, 99, 100, 500}) {
            x.litIn(0, ticks);
        }
        x.litIn(1, 0);
        x.litIn(0, 501);
        Check.dueText("all that is told", Display.tells(x), Display.tells(same));
        Check.due("what follows", x.pass(200), same.pass(200));
    }

    private static void steadyGlowWithoutALitPart() {
        ScannedDigits x = new ScannedDigits();
        x.setBrightness(0, 0);
        Check.due("no brightness", x.steadyGlow(0), 0);
        x.setBrightness(0, 1);
        Check.due("9 * 1 / 15", x.steadyGlow(0), 0);
        x.setBrightness(0, 2);
        Check.due("one tick", x.steadyGlow(0), 250);
        x.setWidth(3, 4);
        x.setGuard(3, 3);
        Check.due("one tick of four", x.steadyGlow(3), 250);
        x.setBrightness(3, 14);
        Check.due("1 * 14 / 15", x.steadyGlow(3), 0);
    }

    private static void steadyGlowFromLeastToMost() {
        ScannedDigits x = Display.alwaysLit(0);
        Check.due("never dark", x.steadyGlow(0), 1000);
        x.set(0, 2);
        Check.due("never dark, whatever the decay is", x.steadyGlow(0), 1000);
        x.setGuard(0, 1);
        // The lit part is long enough to rise from 0 to the most.
        Check.due("dark in one tick", x.steadyGlow(0), 1000);
        x.setDigits(8);
        Check.due("dark in other slots", x.steadyGlow(0), 1000);
        x.setWidth(0, 4);
        x.setGuard(0, 3);
        Check.due("lit in one tick", x.steadyGlow(0), 250);
    }

    private static void steadyGlowTakesNoGroupAndTest() {
        ScannedDigits x = new ScannedDigits();
        int due = x.steadyGlow(0);
        x.setGroup(0, 2);
        x.setBlink(2, 1, 50);
        Check.due("a group", x.steadyGlow(0), due);
        x.passFrames(1);
        Check.due("a group that is off", x.steadyGlow(0), due);
        x.setPattern(0, 255);
        x.set(2, 1);
        x.test(50);
        Check.due("a test", x.steadyGlow(0), due);
        x.passFrames(3);
        Check.due("broken segments", x.steadyGlow(0), due);
        x.setBrightness(0, 0);
        Check.due("no lit part, but a test", x.steadyGlow(0), 0);
    }

    /** The glow behind the lit parts of many frames. */
    private static int glowBehind(int lit, int length, int decay, int frames) {
        int glow = 0;
        for (int frame = 0; frame < frames; frame++) {
            for (int tick = 0; frame > 0 && tick < length - lit; tick++) {
                glow = Math.max(0, glow - glow / decay - 1);
            }
            for (int tick = 0; tick < lit; tick++) {
                glow = Math.min(1000, glow + Math.max(1, (1000 - glow) / 4));
            }
        }
        return glow;
    }

    private static void steadyGlowOfFramesAsTheyAre() {
        ScannedDigits x = new ScannedDigits();
        x.setDigits(1);
        x.setBrightness(0, 4);
        x.set(0, 50);
        Check.due("alone", x.steadyGlow(0), glowBehind(2, 10, 50, 1000));
        x.setDigits(2);
        Check.due("another slot", x.steadyGlow(0), glowBehind(2, 20, 50, 1000));
        x.setWidth(1, 40);
        Check.due("a wide one", x.steadyGlow(0), glowBehind(2, 50, 50, 1000));
        x.setBrightness(0, 15);
        Check.due("its lit part", x.steadyGlow(0), glowBehind(9, 50, 50, 1000));
        x.set(0, 49);
        Check.due("the decay", x.steadyGlow(0), glowBehind(9, 50, 49, 1000));
        x.setGuard(0, 3);
        Check.due("the guard", x.steadyGlow(0), glowBehind(7, 50, 49, 1000));
    }

    private static void steadyGlowBeginsWithTheLitPart() {
        ScannedDigits x = new ScannedDigits();
        x.setBrightness(3, 2);
        x.pass(17);
        // One tick from the glow 0, and dark again long before the next one.
        Check.due("behind one tick", x.steadyGlow(3), 250);
        x.setDigits(1);
        x.setWidth(0, 4);
        x.setGuard(0, 2);
        // 250 437 | 381 332 | 499 624 | 545 475 | 606 704 | ..
        x.setBrightness(0, 15);
        Check.due("two lit, two dark", x.steadyGlow(0), glowBehind(2, 4, 8, 1000));
    }

    private static void steadyGlowIsTheFirstThatStays() {
        for (int decay : new int[] {2, 8, 50}) {
            for (int width : new int[] {4, 7, 40}) {
                ScannedDigits x = new ScannedDigits();
                x.setDigits(1);
                x.setWidth(0, width);
                x.set(0, decay);
                for (int brightness = 0; brightness <= 15; brightness++) {
                    int lit = x.setBrightness(0, brightness);
                    int frame = 2;
                    while (glowBehind(lit, width, decay, frame)
                        != glowBehind(lit, width, decay, frame - 1)) {
                        frame++;
                    }
                    Check.due("lit " + lit + " of " + width + ", decay " + decay, x.steadyGlow(0),
                        lit == 0 ? 0 : glowBehind(lit, width, decay, frame));
                }
            }
        }
    }

    // ---- current, thousandths, duty

    private static void currentsAreTold() {
        ScannedDigits x = Display.alwaysLit(255);
        x.pass(2);
        x.setPattern(0, 0);
        x.pass(1);
        Check.dueFloat("current", x.current(0), 4.1015625f);
        Check.dueFloat("peak", x.current(1), 4.6875f);
        Check.dueFloat("charge", x.current(2),
            2.5f * 0.001f + 4.6875f * 0.001f + 4.1015625f * 0.001f);
    }

    private static void currentOutOfRange() {
        ScannedDigits x = Display.alwaysLit(255);
        x.pass(100);
        for (int what : new int[] {-1, 3, Integer.MIN_VALUE, Integer.MAX_VALUE}) {
            Check.dueFloat("current(" + what + ")", x.current(what), 0f);
        }
    }

    private static void thousandthsAreCutOff() {
        ScannedDigits x = new ScannedDigits();
        for (int what = 0; what <= 2; what++) {
            Check.due("none", x.thousandths(what), 0);
        }
        x.setPattern(0, 1);
        x.pass(1);
        // 312.5, and 0.3125 of the charge.
        Check.due("current", x.thousandths(0), 312);
        Check.due("peak", x.thousandths(1), 312);
        Check.due("charge", x.thousandths(2), 0);
        x.pass(1);
        Check.due("585.9", x.thousandths(0), 585);
        x.pass(8);
        for (int tick = 0; tick < 60; tick++) {
            x.pass(1);
            for (int what = 0; what <= 2; what++) {
                Check.due("tick " + tick, x.thousandths(what), (int) (x.current(what) * 1000f));
            }
        }
        // The float below 0.602: times 1000 it is below 602, but the float operation rounds it up.
        ScannedDigits y = new ScannedDigits();
        y.setDigits(3);
        y.setPattern(0, 63);
        y.setPattern(1, 63);
        y.setPattern(2, 15);
        y.pass(55);
        Check.dueFloat("charge", y.current(2), 0.602f);
        Check.due("charge, cut off behind the operation", y.thousandths(2), 602);
    }

    private static void dutyFromNoneToAll() {
        ScannedDigits x = new ScannedDigits();
        x.pass(1);
        Check.dueFloat("all", x.duty(0), 1f);
        Check.dueFloat("none", x.duty(3), 0f);
        x.pass(39);
        Check.dueFloat("9 of 40", x.duty(0), 9f / 40f);
        Check.dueFloat("9 of 40, the last", x.duty(3), 9f / 40f);
        x.pass(1);
        Check.dueFloat("10 of 41", x.duty(0), 10f / 41f);
    }

    private static void dutyAtTheTimeZero() {
        ScannedDigits x = new ScannedDigits();
        Check.dueFloat("new", x.duty(0), 0f);
        x.pass(1);
        x.undo();
        Check.dueFloat("at the time 0 again", x.duty(0), 0f);
    }

    private static void dutyOfNoDigit() {
        ScannedDigits x = new ScannedDigits();
        x.passFrames(1);
        Check.dueFloat("digit -1", x.duty(-1), 0f);
        Check.dueFloat("digit 4", x.duty(4), 0f);
        Check.dueFloat("digit 3", x.duty(3), 9f / 40f);
        x.setDigits(3);
        Check.dueFloat("digit 3, gone", x.duty(3), 0f);
        x.setDigits(4);
        Check.dueFloat("digit 3, new", x.duty(3), 0f);
        x.setDigits(8);
        Check.dueFloat("digit 8", x.duty(8), 0f);
    }

    // ---- count

    private static void timeFromZero() {
        ScannedDigits x = new ScannedDigits();
        Check.due("at first", x.count(0), 0);
        x.pass(1);
        Check.due("behind a tick", x.count(0), 1);
        x.setDigits(8);
        Check.due("a cut takes no time", x.count(0), 1);
        x.passFrames(20);
        Check.due("behind frames", x.count(0), 1601);
    }

    private static void digitsAndLengths() {
        ScannedDigits x = new ScannedDigits();
        x.setDigits(1);
        x.setWidth(0, 4);
        Check.due("the least", x.count(1) * 1000 + x.count(2), 1004);
        x.setDigits(8);
        for (int digit = 0; digit < 8; digit++) {
            x.setWidth(digit, 40);
        }
        Check.due("the most", x.count(1) * 1000 + x.count(2), 8320);
    }

    private static void framesAndTheirTicks() {
        ScannedDigits x = new ScannedDigits();
        for (int tick = 0; tick < 81; tick++) {
            Check.due("frame", x.count(3), tick / 40);
            Check.due("ticks of it", x.count(4), tick % 40);
            x.pass(1);
        }
        x.setDigits(1);
        Check.due("behind a cut", x.count(3) * 10 + x.count(4), 30);
    }

    private static void slotOfTheNextTick() {
        ScannedDigits x = new ScannedDigits();
        int[] ticks = {0, 9, 10, 19, 20, 29, 30, 39, 40};
        int[] slots = {0, 0, 1, 1, 2, 2, 3, 3, 0};
        for (int i = 0; i < ticks.length; i++) {
            if (i > 0) {
                x.pass(ticks[i] - ticks[i - 1]);
            }
            Check.due("ahead of the tick " + ticks[i], x.count(5), slots[i]);
        }
        x.setDigits(8);
        x.pass(79);
        Check.due("the last slot", x.count(5), 7);
        x.setDigits(1);
        x.pass(9);
        Check.due("the only slot", x.count(5), 0);
    }

    private static void framesLeftOfATest() {
        ScannedDigits x = new ScannedDigits();
        Check.due("none", x.count(6), 0);
        x.test(50);
        for (int left = 50; left >= 1; left--) {
            Check.due("left", x.count(6), left);
            x.passFrames(1);
        }
        Check.due("over", x.count(6), 0);
        x.passFrames(1);
        Check.due("never below 0", x.count(6), 0);
    }

    private static void allDrivenTicks() {
        ScannedDigits x = new ScannedDigits();
        Check.due("none", x.count(7), 0);
        x.pass(1);
        Check.due("one", x.count(7), 1);
        x.pass(39);
        Check.due("of a frame", x.count(7), 36);
        x.setDigits(1);
        Check.due("those that are gone, too", x.count(7), 36);
        x.setDigits(4);
        Check.due("those that are new have none", x.count(7), 36);
        x.replace(0);
        Check.due("those that are replaced, too", x.count(7), 36);
        x.undo();
        x.undo();
        x.undo();
        x.undo();
        Check.due("undone", x.count(7), 1);
    }

    private static void allBrokenSegments() {
        ScannedDigits x = new ScannedDigits();
        Check.due("none", x.count(8), 0);
        x.setDigits(8);
        x.set(2, 1);
        x.setPattern(7, 128);
        x.passFrames(1);
        Check.due("one, the last", x.count(8), 1);
        x.test(1);
        x.passFrames(1);
        Check.due("all", x.count(8), 64);
        x.setDigits(1);
        Check.due("of the digit that is left", x.count(8), 8);
        x.setDigits(8);
        Check.due("new ones are whole", x.count(8), 8);
        x.replace(0);
        Check.due("none again", x.count(8), 0);
    }

    private static void settingsAreTold() {
        ScannedDigits x = new ScannedDigits();
        int[] first = {8, 200, 100000};
        int[] least = {2, 1, 1};
        int[] most = {50, 1000, 1000000};
        for (int what = 0; what <= 2; what++) {
            Check.due("at first", x.count(9 + what), first[what]);
            x.set(what, least[what]);
            Check.due("the least", x.count(9 + what), least[what]);
            x.set(what, most[what]);
            Check.due("the most", x.count(9 + what), most[what]);
        }
    }

    private static void statesAndLengths() {
        ScannedDigits x = new ScannedDigits();
        Check.due("none", x.count(12) * 100 + x.count(13), 0);
        for (int i = 1; i <= 31; i++) {
            x.type('1');
            x.pass(1);
            Check.due("told", x.count(12) * 100 + x.count(13),
                Math.min(i, 5) * 100 + Math.min(i, 30));
        }
        x.undo();
        x.clearText();
        Check.due("told then", x.count(12) * 100 + x.count(13), 400);
    }

    // ---- group

    private static void onAndOff() {
        ScannedDigits x = new ScannedDigits();
        Check.due("group 0", x.group(0, 0) * 100 + x.group(0, 1), 0);
        for (int group = 1; group <= 3; group++) {
            Check.due("at first", x.group(group, 0) * 100 + x.group(group, 1), 505);
            x.setBlink(group, 1, 0);
            Check.due("the least", x.group(group, 0) * 100 + x.group(group, 1), 100);
            x.setBlink(group, 50, 50);
            Check.due("the most", x.group(group, 0) * 100 + x.group(group, 1), 5050);
        }
        Check.due("group 0, still", x.group(0, 0) * 100 + x.group(0, 1), 0);
    }

    private static void onInThePresentFrame() {
        ScannedDigits x = new ScannedDigits();
        x.setBlink(3, 1, 1);
        x.pass(39);
        Check.due("the last tick of the frame 0", x.group(3, 2), 1);
        x.pass(1);
        Check.due("the frame 1", x.group(3, 2), 0);
        x.test(1);
        Check.due("a test makes no group on", x.group(3, 2), 0);
        x.pass(39);
        Check.due("its last tick", x.group(3, 2), 0);
        x.pass(1);
        Check.due("the frame 2", x.group(3, 2), 1);
        Check.due("the group 0", x.group(0, 2), 1);
    }

    private static void digitsOfAGroup() {
        ScannedDigits x = new ScannedDigits();
        x.setDigits(8);
        Check.due("all in 0", x.group(0, 3) * 10 + x.group(3, 3), 80);
        for (int digit = 0; digit < 8; digit++) {
            x.setGroup(digit, 3);
            Check.due("in 3", x.group(0, 3) * 10 + x.group(3, 3), 10 * (7 - digit) + digit + 1);
        }
        x.setDigits(1);
        Check.due("those that are left", x.group(0, 3) * 10 + x.group(3, 3), 1);
        x.setDigits(8);
        Check.due("those that are new", x.group(0, 3) * 10 + x.group(3, 3), 71);
    }
}
