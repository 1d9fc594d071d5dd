/** The edges that "Terms" names: digits and frames, blinking, test, lighting. */
public final class FramesEdgesTest {
    public static void main(String[] args) {
        digitsAndFrames();
        cutFrames();
        blinking();
        tests();
        lighting();
        Sentences.end();
    }

    private static void digitsAndFrames() {
        Sentences.holds("There are 1 to 8 digits (at first 4), numbered from 0.",
            FramesEdgesTest::digitsAreNumberedFromZero);
        Sentences.holds("the slots follow each other in ascending order of the digits",
            FramesEdgesTest::slotsFollowEachOther);
        Sentences.holds("A slot has a width (4 to 40 ticks, at first 10)",
            FramesEdgesTest::widthsFrom4To40);
        Sentences.holds("a guard (0 to 3 ticks at its end in which nothing is lit, at first 1)",
            FramesEdgesTest::guardsFrom0To3);
        Sentences.holds("a brightness (0 to 15, at first 15)",
            FramesEdgesTest::brightnessesFrom0To15);
        Sentences.holds("The lit part of a slot is (width - guard) * brightness / 15 ticks,"
            + " [all divisions round down]", FramesEdgesTest::litPartsRoundDown);
        Sentences.holds("[the lit part is] from its beginning",
            FramesEdgesTest::litPartsBeginTheSlot);
        Sentences.holds("behind a frame the next one begins", FramesEdgesTest::framesFollow);
        Sentences.holds("The first frame begins at the time 0.",
            FramesEdgesTest::firstFrameBeginsAtZero);
    }

    private static void cutFrames() {
        Sentences.holds("When the number of digits [..] is changed (to another one), a new frame"
            + " begins at once; the frame that was under way is cut",
            FramesEdgesTest::anotherNumberOfDigitsCuts);
        Sentences.holds("When [..] a width is changed (to another one), a new frame begins at once;"
            + " the frame that was under way is cut", FramesEdgesTest::anotherWidthCuts);
        Sentences.holds("(to another one)", FramesEdgesTest::theSameCutsNothing);
        Sentences.holds("also if no tick of it has passed; the number of the frame increases by 1",
            FramesEdgesTest::cutsBeforeTheFirstTick);
        Sentences.holds("it counts as one frame of a test", FramesEdgesTest::cutsCountForATest);
        Sentences.holds("The other settings work at once. [pattern, guard, brightness]",
            FramesEdgesTest::settingsOfADigitWorkAtOnce);
        Sentences.holds("The other settings work at once. [group, blinking, test, all segments]",
            FramesEdgesTest::otherSettingsWorkAtOnce);
        Sentences.holds("The other settings work at once. [they cut no frame]",
            FramesEdgesTest::otherSettingsCutNothing);
    }

    private static void blinking() {
        Sentences.holds("There are four groups, 0 to 3", FramesEdgesTest::groupsFrom0To3);
        Sentences.holds("the group 0 never blinks", FramesEdgesTest::groupZeroNeverBlinks);
        Sentences.holds("for which it is on (1 to 50) and [..] off (0 to 50), both at first 5",
            FramesEdgesTest::blinkNumbersFromLeastToMost);
        Sentences.holds("A digit belongs to a group, at first to 0.",
            FramesEdgesTest::digitsBelongToGroupZero);
        Sentences.holds("if n mod (on + off) is less than on",
            FramesEdgesTest::groupsBeginAgainBehindOnAndOff);
        Sentences.holds("frames are counted from 0; a cut frame counts, too",
            FramesEdgesTest::cutFramesCountForGroups);
        Sentences.holds("When a group gets new numbers, it is on or off by them at once",
            FramesEdgesTest::newNumbersWorkAtOnce);
        Sentences.holds("nothing else changes", FramesEdgesTest::newNumbersChangeNothingElse);
    }

    private static void tests() {
        Sentences.holds("all segments of all digits are wanted, whatever their patterns [..] are",
            FramesEdgesTest::testsTakeNoPattern);
        Sentences.holds("whatever their [..] groups [..] are", FramesEdgesTest::testsTakeNoGroup);
        Sentences.holds("whatever their [..] brightness are (as if the brightness was 15)",
            FramesEdgesTest::testsTakeNoBrightness);
        Sentences.holds("The test runs for a told number of frames",
            FramesEdgesTest::testsRunForTheirFrames);
        Sentences.holds("the rest of the present frame counts as one",
            FramesEdgesTest::restOfTheFrameCounts);
    }

    private static void lighting() {
        Sentences.holds("the digit whose slot this is is driven if the tick is in the lit part",
            FramesEdgesTest::drivenInTheLitPart);
        Sentences.holds("and its group is on (or the test runs)",
            FramesEdgesTest::drivenIfTheGroupIsOn);
        Sentences.holds("All segments of its pattern (or all, in the test) that are not broken",
            FramesEdgesTest::brokenOnesAreNotLit);
        Sentences.holds("a digit is driven also if none is lit",
            FramesEdgesTest::drivenIfNoneIsLit);
    }

    // ---- digits and frames

    private static void digitsAreNumberedFromZero() {
        Check.due("at first", new ScannedDigits().count(1), 4);
        for (int digits : new int[] {4, 1, 8}) {
            ScannedDigits x = new ScannedDigits();
            x.setDigits(digits);
            Check.due("digits", x.count(1), digits);
            Check.due("digit -1", x.digit(-1, 1), -1);
            Check.due("digit 0", x.digit(0, 1), 10);
            Check.due("the last digit of " + digits, x.digit(digits - 1, 1), 10);
            Check.due("the digit behind the last of " + digits, x.digit(digits, 1), -1);
        }
    }

    private static void slotsFollowEachOther() {
        ScannedDigits x = new ScannedDigits();
        x.setDigits(8);
        int[] starts = {0, 4, 9, 15, 22, 30, 39, 49};
        for (int digit = 0; digit < 8; digit++) {
            x.setWidth(digit, 4 + digit);
        }
        for (int digit = 0; digit < 8; digit++) {
            Check.due("slot of " + digit, x.digit(digit, 6), starts[digit]);
        }
        int slot = 0;
        for (int tick = 0; tick < 60; tick++) {
            slot += slot < 7 && tick == starts[slot + 1] ? 1 : 0;
            Check.due("slot of the tick " + tick, x.count(5), slot);
            x.pass(1);
        }
        Check.due("the first slot again", x.count(5), 0);
    }

    private static void widthsFrom4To40() {
        for (int width : new int[] {4, 40}) {
            ScannedDigits x = new ScannedDigits();
            Check.due("at first", x.digit(3, 1), 10);
            x.setDigits(1);
            Check.due("frame of " + width, x.setWidth(0, width), width);
            x.pass(width - 1);
            Check.due("its last tick", x.count(3) * 100 + x.count(4), 200 + width - 1);
            x.pass(1);
            Check.due("the next frame", x.count(3) * 100 + x.count(4), 300);
        }
    }

    private static void guardsFrom0To3() {
        ScannedDigits x = new ScannedDigits();
        Check.due("at first", x.digit(0, 2), 1);
        x.setPattern(0, 1);
        for (int guard = 0; guard <= 3; guard++) {
            x.setGuard(0, guard);
            Check.due("the last tick ahead of it", x.litIn(0, 9 - guard), 1);
            for (int tick = 10 - guard; tick < 10; tick++) {
                Check.due("dark in guard " + guard, x.litIn(0, tick), 0);
            }
        }
        x.test(50);
        Check.due("the last tick ahead of it in a test", x.litIn(0, 6), 255);
        for (int tick = 7; tick < 10; tick++) {
            Check.due("dark in a test, too", x.litIn(0, tick), 0);
        }
        x.pass(7);
        Check.due("nothing is lit", x.pass(3), 0);
    }

    private static void brightnessesFrom0To15() {
        ScannedDigits x = new ScannedDigits();
        Check.due("at first", x.digit(0, 3), 15);
        x.setPattern(0, 1);
        x.setBrightness(0, 0);
        Check.due("nothing is lit", x.passFrames(1) + x.digit(0, 11), 40);
        x.setBrightness(0, 1);
        Check.due("too little for a tick", x.passFrames(1) + x.digit(0, 11), 80);
        x.setBrightness(0, 15);
        Check.due("all but the guard", x.passFrames(1) + x.digit(0, 11), 120 + 9);
    }

    private static void litPartsRoundDown() {
        for (int width = 4; width <= 40; width++) {
            ScannedDigits x = new ScannedDigits();
            x.setWidth(2, width);
            for (int guard = 0; guard <= 3; guard++) {
                x.setGuard(2, guard);
                for (int brightness = 0; brightness <= 15; brightness++) {
                    int due = Math.floorDiv((width - guard) * brightness, 15);
                    Check.due("width " + width + " guard " + guard + " brightness " + brightness,
                        x.setBrightness(2, brightness), due);
                }
            }
        }
        // 1 * 14 / 15, 10 * 1 / 15 and 40 * 14 / 15.
        ScannedDigits y = new ScannedDigits();
        y.setWidth(0, 4);
        y.setGuard(0, 3);
        Check.due("below one tick", y.setBrightness(0, 14), 0);
        y.setGuard(1, 0);
        Check.due("below one tick, too", y.setBrightness(1, 1), 0);
        y.setWidth(2, 40);
        y.setGuard(2, 0);
        Check.due("37.3 ticks", y.setBrightness(2, 14), 37);
    }

    private static void litPartsBeginTheSlot() {
        ScannedDigits x = new ScannedDigits();
        x.setPattern(1, 1);
        x.setBrightness(1, 7);
        // 9 * 7 / 15 ticks from the tick 10 on.
        Check.due("ahead of it", x.litIn(1, 9), 0);
        Check.due("its first tick", x.litIn(1, 10), 1);
        Check.due("its last tick", x.litIn(1, 13), 1);
        Check.due("behind it", x.litIn(1, 14), 0);
    }

    private static void framesFollow() {
        ScannedDigits x = new ScannedDigits();
        x.pass(39);
        Check.due("the last tick", x.count(3) * 1000 + x.count(4) * 10 + x.count(5), 393);
        x.pass(1);
        Check.due("the next frame", x.count(3) * 1000 + x.count(4) * 10 + x.count(5), 1000);
        ScannedDigits longest = new ScannedDigits();
        longest.setDigits(8);
        for (int digit = 0; digit < 8; digit++) {
            longest.setWidth(digit, 40);
        }
        longest.pass(319);
        Check.due("the last tick of 320", longest.count(3) * 1000 + longest.count(4), 9319);
        longest.pass(1);
        Check.due("behind 320", longest.count(3) * 1000 + longest.count(4), 10000);
        ScannedDigits shortest = new ScannedDigits();
        shortest.setDigits(1);
        shortest.setWidth(0, 4);
        shortest.pass(499);
        Check.due("frames of 4", shortest.count(3) * 1000 + shortest.count(4), 126003);
    }

    private static void firstFrameBeginsAtZero() {
        ScannedDigits x = new ScannedDigits();
        for (int what : new int[] {0, 3, 4, 5}) {
            Check.due("count " + what, x.count(what), 0);
        }
        x.setPattern(0, 1);
        Check.due("the first tick", x.pass(1), 1);
        Check.due("the frame 0", x.count(3) * 10 + x.count(4), 1);
    }

    // ---- frames that are cut

    private static void isCut(String call, ScannedDigits x, int frame, int time) {
        Check.due(call + ": frame", x.count(3), frame);
        Check.due(call + ": ticks of it", x.count(4), 0);
        Check.due(call + ": slot", x.count(5), 0);
        Check.due(call + ": time", x.count(0), time);
    }

    private static void anotherNumberOfDigitsCuts() {
        ScannedDigits x = new ScannedDigits();
        x.pass(13);
        x.setDigits(5);
        isCut("one more", x, 1, 13);
        x.pass(49);
        x.setDigits(4);
        isCut("one less, in the last tick", x, 2, 62);
        x.pass(1);
        x.setDigits(8);
        isCut("the most, behind the first tick", x, 3, 63);
        x.pass(80);
        x.pass(79);
        x.setDigits(1);
        isCut("the least", x, 5, 222);
        x.pass(9);
        Check.due("a whole frame begins", x.count(3) * 10 + x.count(4), 59);
    }

    private static void anotherWidthCuts() {
        ScannedDigits x = new ScannedDigits();
        x.pass(13);
        x.setWidth(3, 11);
        isCut("a slot to come", x, 1, 13);
        x.pass(13);
        x.setWidth(0, 9);
        isCut("a slot that is over", x, 2, 26);
        x.pass(39);
        x.setWidth(3, 40);
        isCut("in the last tick", x, 3, 65);
        x.pass(1);
        x.setWidth(0, 4);
        isCut("behind the first tick", x, 4, 66);
        x.pass(63);
        Check.due("a whole frame begins", x.count(3) * 100 + x.count(4), 463);
    }

    private static void theSameCutsNothing() {
        ScannedDigits x = new ScannedDigits();
        x.test(3);
        x.pass(13);
        Check.due("the same number", x.setDigits(4), 4);
        for (int digit = 0; digit < 4; digit++) {
            Check.due("the same width", x.setWidth(digit, 10), 40);
        }
        Check.due("frame", x.count(3), 0);
        Check.due("ticks of it", x.count(4), 13);
        Check.due("frames of the test", x.count(6), 3);
    }

    private static void cutsBeforeTheFirstTick() {
        ScannedDigits x = new ScannedDigits();
        x.setWidth(0, 11);
        isCut("a width", x, 1, 0);
        x.setWidth(0, 10);
        isCut("a width again", x, 2, 0);
        x.setDigits(5);
        isCut("a number", x, 3, 0);
        x.setDigits(4);
        isCut("a number again", x, 4, 0);
        x.pass(40);
        Check.due("behind a whole frame", x.count(3), 5);
        x.setWidth(0, 11);
        isCut("behind a whole frame", x, 6, 40);
    }

    private static void cutsCountForATest() {
        ScannedDigits x = new ScannedDigits();
        x.test(3);
        x.setWidth(0, 11);
        Check.due("a width", x.count(6), 2);
        x.setDigits(5);
        Check.due("a number", x.count(6), 1);
        Check.due("it runs still", x.litIn(0, 0), 255);
        x.setDigits(4);
        Check.due("the last frame", x.count(6), 0);
        Check.due("it is over", x.litIn(0, 0), 0);
        x.setDigits(5);
        x.setWidth(0, 10);
        Check.due("no test, nothing to count", x.count(6), 0);
        Check.due("no test", x.test(1), 0);
    }

    private static void settingsOfADigitWorkAtOnce() {
        ScannedDigits x = new ScannedDigits();
        x.setPattern(0, 1);
        x.pass(4);
        x.setPattern(0, 2);
        Check.due("pattern", x.litIn(0, 0), 2);
        x.setGuard(0, 3);
        Check.due("last tick ahead of the guard", x.litIn(0, 2), 2);
        Check.due("guard", x.litIn(0, 3), 0);
        // 7 * 8 / 15 ticks, of which 4 are over; then 7 * 10 / 15.
        x.setBrightness(0, 8);
        Check.due("a lit part that is over", x.litIn(0, 0), 0);
        x.setBrightness(0, 11);
        Check.due("a lit part that is not over", x.litIn(0, 0), 2);
        Check.due("its end", x.litIn(0, 1), 0);
        ScannedDigits y = new ScannedDigits();
        y.pass(4);
        Display.show(y, "1");
        Check.due("a text", y.litIn(0, 0), 6);
    }

    private static void otherSettingsWorkAtOnce() {
        ScannedDigits x = new ScannedDigits();
        x.setPattern(0, 1);
        x.setBlink(1, 1, 1);
        x.passFrames(1);
        x.pass(4);
        x.setGroup(0, 1);
        Check.due("a group that is off", x.litIn(0, 0), 0);
        x.setBlink(1, 1, 0);
        Check.due("a group that is on then", x.litIn(0, 0), 1);
        x.test(1);
        Check.due("a test", x.litIn(0, 0), 255);
        x.test(0);
        Check.due("no test", x.litIn(0, 0), 1);
        int glow = x.segment(0, 0, 0);
        x.set(1, glow);
        Check.due("a threshold", x.digit(0, 7), 1);
        x.set(1, glow + 1);
        Check.due("a threshold above", x.digit(0, 7), 0);
        x.setPattern(0, 0);
        x.set(0, 2);
        x.pass(1);
        Check.due("a decay", x.segment(0, 0, 0), glow - glow / 2 - 1);
        x.setPattern(0, 1);
        x.set(2, 1);
        x.pass(1);
        Check.due("a life", x.digit(0, 8), 1);
        x.replace(0);
        Check.due("a new digit", x.litIn(0, 0), 1);
    }

    private static void otherSettingsCutNothing() {
        ScannedDigits x = new ScannedDigits();
        x.pass(5);
        x.setGuard(0, 3);
        x.setBrightness(0, 1);
        x.setPattern(0, 255);
        x.setGroup(0, 3);
        x.setBlink(3, 1, 50);
        x.set(0, 2);
        x.set(1, 1000);
        x.set(2, 1);
        x.replace(0);
        x.test(2);
        x.show();
        Check.due("frame", x.count(3), 0);
        Check.due("ticks of it", x.count(4), 5);
        Check.due("frames of the test", x.count(6), 2);
    }

    // ---- blinking

    private static void groupsFrom0To3() {
        ScannedDigits x = new ScannedDigits();
        Check.due("group -1", x.group(-1, 2), -1);
        Check.due("group 0", x.group(0, 2), 1);
        Check.due("group 3", x.group(3, 2), 1);
        Check.due("group 4", x.group(4, 2), -1);
    }

    private static void groupZeroNeverBlinks() {
        ScannedDigits x = new ScannedDigits();
        x.setPattern(0, 1);
        for (int frame = 0; frame <= 101; frame++) {
            Check.due("on in frame " + frame, x.group(0, 2), 1);
            Check.due("lit in frame " + frame, x.litIn(0, 0), 1);
            x.passFrames(1);
        }
    }

    private static void isOnInFrames(int on, int off, int... edges) {
        ScannedDigits x = new ScannedDigits();
        Check.due("setBlink", x.setBlink(1, on, off), 0);
        x.setGroup(0, 1);
        x.setPattern(0, 1);
        for (int i = 0; i < edges.length; i++) {
            String blink = on + " on, " + off + " off, frame ";
            Display.toFrame(x, edges[i] - 1);
            Check.due(blink + (edges[i] - 1), x.group(1, 2), 1 - (i & 1));
            Check.due(blink + (edges[i] - 1), x.litIn(0, 0), 1 - (i & 1));
            Display.toFrame(x, edges[i]);
            Check.due(blink + edges[i], x.group(1, 2), i & 1);
            Check.due(blink + edges[i], x.litIn(0, 0), i & 1);
        }
    }

    private static void blinkNumbersFromLeastToMost() {
        isOnInFrames(50, 50, 50, 100, 150, 200);
        isOnInFrames(1, 50, 1, 51, 52, 102);
        isOnInFrames(50, 1, 50, 51, 101, 102);
        isOnInFrames(1, 1, 1, 2, 3, 4, 5);
        for (int on : new int[] {1, 50}) {
            ScannedDigits x = new ScannedDigits();
            x.setBlink(2, on, 0);
            for (int frame = 0; frame <= 101; frame++) {
                Check.due("never off, frame " + frame, x.group(2, 2), 1);
                x.passFrames(1);
            }
        }
    }

    private static void digitsBelongToGroupZero() {
        ScannedDigits x = new ScannedDigits();
        Check.due("digits of 0", x.group(0, 3), 4);
        for (int group = 1; group <= 3; group++) {
            Check.due("digits of " + group, x.group(group, 3), 0);
        }
        x.setDigits(8);
        for (int digit = 0; digit < 8; digit++) {
            Check.due("group of " + digit, x.digit(digit, 4), 0);
        }
    }

    private static void groupsBeginAgainBehindOnAndOff() {
        ScannedDigits x = new ScannedDigits();
        for (int frame = 0; frame <= 21; frame++) {
            for (int group = 1; group <= 3; group++) {
                Check.due("group " + group + " in frame " + frame, x.group(group, 2),
                    frame <= 4 || frame >= 10 && frame <= 14 || frame >= 20 ? 1 : 0);
            }
            x.passFrames(1);
        }
    }

    private static void cutFramesCountForGroups() {
        ScannedDigits x = new ScannedDigits();
        x.setBlink(1, 1, 2);
        Check.due("frame 0", x.group(1, 2), 1);
        x.setWidth(0, 11);
        Check.due("frame 1", x.group(1, 2), 0);
        x.setDigits(5);
        Check.due("frame 2", x.group(1, 2), 0);
        x.pass(7);
        x.setDigits(4);
        Check.due("frame 3", x.group(1, 2), 1);
        x.passFrames(1);
        Check.due("frame 4", x.group(1, 2), 0);
    }

    private static void newNumbersWorkAtOnce() {
        ScannedDigits x = new ScannedDigits();
        x.setPattern(0, 1);
        x.setGroup(0, 2);
        x.passFrames(7);
        x.pass(3);
        Check.due("off in frame 7", x.litIn(0, 0), 0);
        x.setBlink(2, 8, 1);
        Check.due("7 is less than 8", x.group(2, 2) * 10 + x.litIn(0, 0), 11);
        x.setBlink(2, 7, 1);
        Check.due("7 is not less than 7", x.group(2, 2) * 10 + x.litIn(0, 0), 0);
        x.setBlink(2, 7, 0);
        Check.due("begins again at 7", x.group(2, 2) * 10 + x.litIn(0, 0), 11);
    }

    private static void newNumbersChangeNothingElse() {
        ScannedDigits x = new ScannedDigits();
        ScannedDigits same = new ScannedDigits();
        x.pass(213);
        same.pass(213);
        x.setBlink(2, 1, 9);
        // An act, too, that sets what is there.
        same.setBlink(1, 5, 5);
        Check.due("group 2", x.group(2, 0) * 10 + x.group(2, 1), 19);
        String told = Display.tells(x).replace("group 2: 1 9 0 0", "group 2: 5 5 0 0");
        Check.dueText("all the rest", told, Display.tells(same));
    }

    // ---- tests

    private static void testsTakeNoPattern() {
        ScannedDigits x = new ScannedDigits();
        x.setDigits(8);
        x.test(1);
        for (int digit = 0; digit < 8; digit++) {
            Check.due("no pattern", x.digit(digit, 0), 0);
            Check.due("all segments of " + digit, x.litIn(digit, 10 * digit), 255);
        }
        Check.due("each tick", x.pass(80), 8 * 9 * 8);
        Check.due("without it", x.pass(80), 0);
    }

    private static void testsTakeNoGroup() {
        ScannedDigits x = new ScannedDigits();
        x.setBlink(3, 1, 50);
        x.setGroup(3, 3);
        x.setPattern(3, 1);
        x.passFrames(1);
        Check.due("off", x.litIn(3, 38), 0);
        x.test(1);
        Check.due("the group is off still", x.group(3, 2), 0);
        Check.due("all segments", x.litIn(3, 38), 255);
        Check.due("behind the test", x.litIn(3, 78), 0);
    }

    private static void testsTakeNoBrightness() {
        ScannedDigits x = new ScannedDigits();
        x.setBrightness(0, 0);
        x.setBrightness(1, 7);
        x.test(1);
        Check.due("brightness 0, last tick", x.litIn(0, 8), 255);
        Check.due("brightness 0, guard", x.litIn(0, 9), 0);
        Check.due("brightness 7, last tick", x.litIn(1, 18), 255);
        Check.due("brightness 7, guard", x.litIn(1, 19), 0);
        Check.due("brightness stays", x.digit(0, 3) * 100 + x.digit(1, 3), 7);
        x.passFrames(2);
        Check.due("driven in the test alone", x.digit(0, 11), 9);
        Check.due("driven in both", x.digit(1, 11), 9 + 4);
    }

    private static void testsRunForTheirFrames() {
        for (int frames : new int[] {1, 2, 50}) {
            ScannedDigits x = new ScannedDigits();
            x.test(frames);
            Display.toFrame(x, frames - 1);
            Check.due("in the last frame of " + frames, x.count(6), 1);
            x.pass(38);
            Check.due("the last lit tick of " + frames, x.litIn(3, 0), 255);
            x.pass(1);
            Check.due("the last tick of " + frames, x.count(6), 1);
            x.pass(1);
            Check.due("behind " + frames, x.count(6) * 1000 + x.litIn(0, 0), 0);
            Check.due("ticks of use in " + frames, x.segment(0, 0, 1), 9 * frames);
        }
    }

    private static void restOfTheFrameCounts() {
        ScannedDigits x = new ScannedDigits();
        x.pass(39);
        x.test(1);
        Check.due("the last tick", x.count(6), 1);
        x.pass(1);
        Check.due("behind the last tick", x.count(6) * 1000 + x.litIn(0, 0), 0);
        x.pass(1);
        x.test(2);
        x.pass(39);
        Check.due("the second frame", x.count(6) * 1000 + x.litIn(0, 0), 1255);
        x.pass(40);
        Check.due("behind both", x.count(6) * 1000 + x.litIn(0, 0), 0);
    }

    // ---- lighting

    private static void drivenInTheLitPart() {
        ScannedDigits x = new ScannedDigits();
        x.setPattern(1, 3);
        x.pass(10);
        Check.due("ahead of its slot", x.digit(1, 11), 0);
        Check.due("its first tick", x.pass(1) * 10 + x.digit(1, 11), 21);
        x.pass(7);
        Check.due("its last tick", x.pass(1) * 10 + x.digit(1, 11), 29);
        Check.due("its guard", x.pass(1) * 10 + x.digit(1, 11), 9);
        x.pass(30);
        Check.due("other slots", x.digit(1, 11), 9);
        Check.due("all of them", x.count(7), 9 + 9 + 9 + 9 + 9);
    }

    private static void drivenIfTheGroupIsOn() {
        ScannedDigits x = new ScannedDigits();
        x.setBlink(1, 1, 1);
        x.setGroup(0, 1);
        x.passFrames(1);
        Check.due("on", x.digit(0, 11), 9);
        x.passFrames(1);
        Check.due("off", x.digit(0, 11), 9);
        x.passFrames(1);
        Check.due("on again", x.digit(0, 11), 18);
        x.test(1);
        x.passFrames(1);
        Check.due("off, but tested", x.digit(0, 11), 27);
    }

    private static void brokenOnesAreNotLit() {
        ScannedDigits x = new ScannedDigits();
        x.set(2, 1);
        x.setPattern(0, 129);
        Check.due("both are lit", x.pass(1), 2);
        x.setPattern(0, 131);
        Check.due("one is whole", x.litIn(0, 0), 2);
        x.test(1);
        Check.due("six are whole", x.litIn(0, 0), 126);
        Check.due("lit", x.pass(1), 6);
        Check.due("none is whole", x.litIn(0, 0), 0);
    }

    private static void drivenIfNoneIsLit() {
        ScannedDigits x = new ScannedDigits();
        Check.due("no pattern", x.pass(10) * 10 + x.digit(0, 11), 9);
        x.set(2, 1);
        x.setPattern(1, 255);
        Check.due("all break", x.pass(1) * 10 + x.digit(1, 11), 81);
        Check.due("all are broken", x.pass(9) * 10 + x.digit(1, 11), 9);
        Check.due("of all", x.count(7), 18);
    }
}
