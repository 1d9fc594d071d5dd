/** The edges of promises 1 to 11: ranges, answers at their ends, what is as at first again. */
public final class SettingsEdgesTest {
    public static void main(String[] args) {
        newAndDigits();
        settingsOfADigit();
        groups();
        settingsOfSegments();
        replaceAndTest();
        Sentences.end();
    }

    private static void newAndDigits() {
        Sentences.holds("1: Creates a display of four digits, at the time 0.",
            SettingsEdgesTest::fourDigitsAtTheTimeZero);
        Sentences.holds("An object is used for at most 512 calls",
            SettingsEdgesTest::all512CallsAnswer);
        Sentences.holds("2: digits: 1 to 8", SettingsEdgesTest::digitsFrom1To8);
        Sentences.holds("2: Digits that are new are as at first (their segments, too)",
            SettingsEdgesTest::newDigitsAreAsAtFirst);
        Sentences.holds("2: those that are left keep all they have",
            SettingsEdgesTest::digitsThatAreLeftKeepAll);
        Sentences.holds("2: Returns the previous number",
            SettingsEdgesTest::setDigitsReturnsThePrevious);
    }

    private static void settingsOfADigit() {
        Sentences.holds("3: digit: a digit; width: 4 to 40", SettingsEdgesTest::widthsFrom4To40);
        Sentences.holds("3: Returns the length of a frame then",
            SettingsEdgesTest::setWidthReturnsTheLengthThen);
        Sentences.holds("4: digit: a digit; guard: 0 to 3", SettingsEdgesTest::guardsFrom0To3);
        Sentences.holds("4: Returns its lit part then",
            SettingsEdgesTest::setGuardReturnsTheLitPartThen);
        Sentences.holds("5: digit: a digit; brightness: 0 to 15",
            SettingsEdgesTest::brightnessesFrom0To15);
        Sentences.holds("5: Returns its lit part then",
            SettingsEdgesTest::setBrightnessReturnsTheLitPartThen);
        Sentences.holds("6: digit: a digit; pattern: a bit set of segments, 0 to 255",
            SettingsEdgesTest::patternsFrom0To255);
        Sentences.holds("6: Returns the previous pattern",
            SettingsEdgesTest::setPatternReturnsThePrevious);
    }

    private static void groups() {
        Sentences.holds("7: digit: a digit; group: 0 to 3", SettingsEdgesTest::groupsFrom0To3);
        Sentences.holds("7: Returns the previous group",
            SettingsEdgesTest::setGroupReturnsThePrevious);
        Sentences.holds("8: group: 1 to 3; on: 1 to 50; off: 0 to 50",
            SettingsEdgesTest::blinkNumbersAreTaken);
        Sentences.holds("8: Returns the number of digits in the group",
            SettingsEdgesTest::setBlinkReturnsTheDigitsOfTheGroup);
    }

    private static void settingsOfSegments() {
        Sentences.holds("9: what: 0 for the decay, 1 for the threshold, 2 for the life;"
            + " value: in its range", SettingsEdgesTest::settingsInTheirRanges);
        Sentences.holds("9: Returns the previous value", SettingsEdgesTest::setReturnsThePrevious);
        Sentences.holds("9: segments that are broken stay so",
            SettingsEdgesTest::brokenOnesStaySo);
        Sentences.holds("9: others break when their use comes to it [..] behind their next lit"
            + " tick", SettingsEdgesTest::othersBreakAtIt);
        Sentences.holds("9: [others break when their use] is beyond it, behind their next lit"
            + " tick", SettingsEdgesTest::othersBreakBeyondIt);
    }

    private static void replaceAndTest() {
        Sentences.holds("10: digit: a digit", SettingsEdgesTest::eachDigitIsReplaced);
        Sentences.holds("10: Returns how many of its segments were broken",
            SettingsEdgesTest::replaceReturnsNoneToEight);
        Sentences.holds("11: frames: 1 to 50, 0 to end it", SettingsEdgesTest::testsFrom0To50);
        Sentences.holds("11: Starts a test, in place of one that runs, or ends it.",
            SettingsEdgesTest::testsTakeThePlaceOfAnother);
        Sentences.holds("11: Returns the number of frames that were left of the test that ran",
            SettingsEdgesTest::testReturnsTheFramesLeft);
        Sentences.holds("11: 0 if none did", SettingsEdgesTest::testReturnsZeroIfNoneRan);
    }

    // ---- a new object, and its digits

    private static void fourDigitsAtTheTimeZero() {
        ScannedDigits x = new ScannedDigits();
        int[] counts = {0, 4, 40, 0, 0, 0, 0, 0, 0, 8, 200, 100000, 0, 0};
        for (int what = 0; what < counts.length; what++) {
            Check.due("count " + what, x.count(what), counts[what]);
        }
        isAsAtFirst(x, 0);
        isAsAtFirst(x, 3);
        Check.due("digit 4", x.digit(4, 0), -1);
        // One object has nothing of another one.
        x.setPattern(0, 255);
        x.pass(100);
        Check.due("another object", new ScannedDigits().count(0), 0);
        isAsAtFirst(new ScannedDigits(), 0);
    }

    private static void isAsAtFirst(ScannedDigits x, int digit) {
        int[] due = {0, 10, 1, 15, 0, 9, x.digit(digit, 6), 0, 0, 0, ' ', 0};
        for (int what = 0; what < due.length; what++) {
            Check.due("digit " + digit + ", " + what, x.digit(digit, what), due[what]);
        }
        for (int segment = 0; segment < 8; segment++) {
            for (int what = 0; what <= 3; what++) {
                Check.due("segment " + segment + ", " + what, x.segment(digit, segment, what), 0);
            }
        }
    }

    private static void all512CallsAnswer() {
        ScannedDigits x = Display.alwaysLit(255);
        x.set(2, 1000000);
        // Five calls are over: 505 more make 510.
        for (int call = 1; call <= 505; call++) {
            Check.due("passFrames", x.passFrames(20), call * 800);
        }
        Check.due("the call 511", x.undo(), 4);
        Check.due("the call 512", x.segment(0, 7, 1), 504 * 800);
    }

    private static void digitsFrom1To8() {
        for (int digits = 1; digits <= 8; digits++) {
            ScannedDigits x = new ScannedDigits();
            Check.due("setDigits(" + digits + ")", x.setDigits(digits), 4);
            Check.due("digits", x.count(1), digits);
            Check.due("length", x.count(2), 10 * digits);
            Check.due("slot of the last", x.digit(digits - 1, 6), 10 * (digits - 1));
        }
    }

    /** Gives a digit all that it can have, so that nothing of it is as at first. */
    private static void use(ScannedDigits x, int digit) {
        x.setWidth(digit, 12);
        x.setGuard(digit, 2);
        x.setBrightness(digit, 14);
        x.setPattern(digit, 131);
        x.set(2, 3);
        // Its width has cut the frame: this is all up to the end of its lit part.
        x.pass(x.digit(digit, 6) + 9);
        x.setGroup(digit, 1);
        Check.due("seen", x.digit(digit, 7), 131);
        Check.due("broken", x.digit(digit, 8), 131);
        Check.due("driven", x.digit(digit, 11) > 0 ? 1 : 0, 1);
    }

    private static void newDigitsAreAsAtFirst() {
        ScannedDigits x = new ScannedDigits();
        x.setDigits(8);
        isAsAtFirst(x, 4);
        isAsAtFirst(x, 7);
        use(x, 7);
        x.setDigits(7);
        x.setDigits(8);
        isAsAtFirst(x, 7);
        use(x, 1);
        use(x, 7);
        x.setDigits(1);
        x.setDigits(8);
        isAsAtFirst(x, 1);
        isAsAtFirst(x, 7);
        Check.due("length", x.count(2), 80);
        Check.due("digits of the group 0", x.group(0, 3), 8);
    }

    private static void digitsThatAreLeftKeepAll() {
        for (int digits : new int[] {1, 3, 4, 5, 8}) {
            ScannedDigits x = new ScannedDigits();
            use(x, 0);
            String before = all(x, 0);
            x.setDigits(digits);
            Check.dueText("digit 0 with " + digits, all(x, 0), before);
        }
        ScannedDigits y = new ScannedDigits();
        use(y, 2);
        String before = all(y, 2);
        y.setDigits(3);
        y.setDigits(8);
        y.setDigits(3);
        Check.dueText("the last one that is left", all(y, 2), before);
    }

    private static String all(ScannedDigits x, int digit) {
        StringBuilder told = new StringBuilder();
        for (int what = 0; what <= 11; what++) {
            told.append(x.digit(digit, what)).append(' ');
        }
        for (int segment = 0; segment < 8; segment++) {
            for (int what = 0; what <= 3; what++) {
                told.append(x.segment(digit, segment, what)).append(' ');
            }
        }
        return told.toString();
    }

    private static void setDigitsReturnsThePrevious() {
        ScannedDigits x = new ScannedDigits();
        Check.due("of a new object", x.setDigits(8), 4);
        Check.due("of the most", x.setDigits(8), 8);
        Check.due("of the most, to the least", x.setDigits(1), 8);
        Check.due("of the least", x.setDigits(1), 1);
        Check.due("of the least, to the most", x.setDigits(8), 1);
    }

    // ---- settings of a digit

    private static void widthsFrom4To40() {
        ScannedDigits x = new ScannedDigits();
        for (int digit : new int[] {0, 3}) {
            for (int width : new int[] {4, 5, 39, 40}) {
                x.setWidth(digit, width);
                Check.due("width", x.digit(digit, 1), width);
            }
        }
        Check.due("length", x.count(2), 40 + 10 + 10 + 40);
    }

    private static void setWidthReturnsTheLengthThen() {
        ScannedDigits x = new ScannedDigits();
        Check.due("the same width", x.setWidth(0, 10), 40);
        Check.due("one more", x.setWidth(0, 11), 41);
        x.setDigits(8);
        int length = 81;
        for (int digit = 0; digit < 8; digit++) {
            length += 40 - x.digit(digit, 1);
            Check.due("of the widest", x.setWidth(digit, 40), length);
        }
        Check.due("the longest", length, 320);
        x.setDigits(1);
        Check.due("the shortest", x.setWidth(0, 4), 4);
    }

    private static void guardsFrom0To3() {
        ScannedDigits x = new ScannedDigits();
        for (int digit : new int[] {0, 3}) {
            for (int guard : new int[] {0, 1, 2, 3}) {
                x.setGuard(digit, guard);
                Check.due("guard", x.digit(digit, 2), guard);
            }
        }
        Check.due("others stay", x.digit(1, 2) * 10 + x.digit(2, 2), 11);
    }

    private static void setGuardReturnsTheLitPartThen() {
        ScannedDigits x = new ScannedDigits();
        Check.due("no guard", x.setGuard(0, 0), 10);
        Check.due("the most", x.setGuard(0, 3), 7);
        x.setWidth(0, 4);
        Check.due("the most, in the narrowest slot", x.setGuard(0, 3), 1);
        Check.due("none, in the narrowest slot", x.setGuard(0, 0), 4);
        x.setBrightness(0, 14);
        Check.due("3 * 14 / 15", x.setGuard(0, 1), 2);
        Check.due("1 * 14 / 15", x.setGuard(0, 3), 0);
        x.setBrightness(0, 0);
        Check.due("no brightness", x.setGuard(0, 0), 0);
        x.setWidth(3, 40);
        Check.due("the widest slot", x.setGuard(3, 0), 40);
    }

    private static void brightnessesFrom0To15() {
        ScannedDigits x = new ScannedDigits();
        for (int digit : new int[] {0, 3}) {
            for (int brightness : new int[] {15, 14, 1, 0}) {
                x.setBrightness(digit, brightness);
                Check.due("brightness", x.digit(digit, 3), brightness);
            }
        }
        Check.due("others stay", x.digit(1, 3) * 100 + x.digit(2, 3), 1515);
    }

    private static void setBrightnessReturnsTheLitPartThen() {
        ScannedDigits x = new ScannedDigits();
        Check.due("9 * 0 / 15", x.setBrightness(0, 0), 0);
        Check.due("9 * 1 / 15", x.setBrightness(0, 1), 0);
        Check.due("9 * 2 / 15", x.setBrightness(0, 2), 1);
        Check.due("9 * 14 / 15", x.setBrightness(0, 14), 8);
        Check.due("9 * 15 / 15", x.setBrightness(0, 15), 9);
        x.setWidth(0, 40);
        x.setGuard(0, 0);
        Check.due("40 * 15 / 15", x.setBrightness(0, 15), 40);
    }

    private static void patternsFrom0To255() {
        ScannedDigits x = new ScannedDigits();
        for (int digit : new int[] {0, 3}) {
            for (int pattern : new int[] {1, 128, 255, 0}) {
                x.setPattern(digit, pattern);
                Check.due("pattern", x.digit(digit, 0), pattern);
                Check.due("wanted", x.litIn(digit, 10 * digit), pattern);
            }
        }
    }

    private static void setPatternReturnsThePrevious() {
        ScannedDigits x = new ScannedDigits();
        Check.due("at first", x.setPattern(3, 255), 0);
        Check.due("the most", x.setPattern(3, 255), 255);
        Check.due("the most, to the least", x.setPattern(3, 0), 255);
        Check.due("the least", x.setPattern(3, 0), 0);
        Check.due("of another digit", x.setPattern(0, 1), 0);
    }

    // ---- groups

    private static void groupsFrom0To3() {
        ScannedDigits x = new ScannedDigits();
        for (int digit : new int[] {0, 3}) {
            for (int group : new int[] {1, 2, 3, 0}) {
                x.setGroup(digit, group);
                Check.due("group", x.digit(digit, 4), group);
                Check.due("digits of it", x.group(group, 3), group == 0 ? 4 : 1);
            }
        }
    }

    private static void setGroupReturnsThePrevious() {
        ScannedDigits x = new ScannedDigits();
        Check.due("at first", x.setGroup(3, 3), 0);
        Check.due("the last", x.setGroup(3, 3), 3);
        Check.due("the last, to the first", x.setGroup(3, 0), 3);
        Check.due("the first", x.setGroup(3, 0), 0);
        Check.due("of another digit", x.setGroup(0, 2), 0);
    }

    private static void blinkNumbersAreTaken() {
        ScannedDigits x = new ScannedDigits();
        for (int group : new int[] {1, 3}) {
            for (int on : new int[] {1, 50}) {
                for (int off : new int[] {0, 50}) {
                    x.setBlink(group, on, off);
                    Check.due("on", x.group(group, 0), on);
                    Check.due("off", x.group(group, 1), off);
                }
            }
        }
        Check.due("another group", x.group(2, 0) * 10 + x.group(2, 1), 55);
    }

    private static void setBlinkReturnsTheDigitsOfTheGroup() {
        ScannedDigits x = new ScannedDigits();
        x.setDigits(8);
        Check.due("none", x.setBlink(1, 1, 0), 0);
        for (int digit = 0; digit < 8; digit++) {
            x.setGroup(digit, 1);
            Check.due("digits", x.setBlink(1, 1, 0), digit + 1);
        }
        Check.due("none of another", x.setBlink(2, 1, 0), 0);
        x.setDigits(1);
        Check.due("without those that are gone", x.setBlink(1, 1, 0), 1);
        x.setDigits(8);
        Check.due("without those that are new", x.setBlink(1, 1, 0), 1);
    }

    // ---- settings of all segments

    private static void settingsInTheirRanges() {
        ScannedDigits x = new ScannedDigits();
        int[] values = {0, 2, 0, 3, 0, 49, 0, 50, 1, 1, 1, 2, 1, 999, 1, 1000, 2, 1, 2, 2, 2,
            999999, 2, 1000000};
        for (int i = 0; i < values.length; i += 2) {
            x.set(values[i], values[i + 1]);
            Check.due("setting " + values[i], x.count(9 + values[i]), values[i + 1]);
        }
        Check.due("each has its own", x.count(9), 50);
        Check.due("each has its own", x.count(10), 1000);
        Check.due("each has its own", x.count(11), 1000000);
    }

    private static void setReturnsThePrevious() {
        ScannedDigits x = new ScannedDigits();
        Check.due("decay at first", x.set(0, 2), 8);
        Check.due("the least decay", x.set(0, 50), 2);
        Check.due("the greatest decay", x.set(0, 50), 50);
        Check.due("threshold at first", x.set(1, 1), 200);
        Check.due("the least threshold", x.set(1, 1000), 1);
        Check.due("the greatest threshold", x.set(1, 1000), 1000);
        Check.due("life at first", x.set(2, 1), 100000);
        Check.due("the least life", x.set(2, 1000000), 1);
        Check.due("the greatest life", x.set(2, 1000000), 1000000);
    }

    private static void brokenOnesStaySo() {
        ScannedDigits x = Display.alwaysLit(1);
        x.set(2, 5);
        x.pass(5);
        Check.due("broken", x.digit(0, 8), 1);
        x.set(2, 6);
        Check.due("with one tick more", x.digit(0, 8), 1);
        x.set(2, 1000000);
        Check.due("with the longest life", x.digit(0, 8) * 10 + x.litIn(0, 0), 10);
        Check.due("dark", x.pass(500), 0);
    }

    private static void othersBreakAtIt() {
        ScannedDigits x = Display.alwaysLit(1);
        x.pass(5);
        x.set(2, 6);
        Check.due("whole", x.digit(0, 8) * 10 + x.litIn(0, 0), 1);
        Check.due("lit once more", x.pass(1), 1);
        Check.due("broken", x.digit(0, 8) * 10 + x.litIn(0, 0), 10);
        Check.due("use", x.segment(0, 0, 1), 6);
        ScannedDigits y = Display.alwaysLit(1);
        y.pass(5);
        y.set(2, 7);
        y.pass(1);
        Check.due("a tick of life is left", y.digit(0, 8), 0);
    }

    private static void othersBreakBeyondIt() {
        for (int life : new int[] {5, 4, 1}) {
            ScannedDigits x = Display.alwaysLit(1);
            x.pass(5);
            x.set(2, life);
            Check.due("whole with the life " + life, x.digit(0, 8), 0);
            x.setPattern(0, 0);
            x.pass(100);
            Check.due("whole while it is not lit", x.digit(0, 8), 0);
            x.setPattern(0, 1);
            Check.due("to be lit", x.litIn(0, 0) * 10 + x.litIn(0, 1), 10);
            Check.due("lit once more", x.pass(2), 1);
            Check.due("broken behind it", x.digit(0, 8), 1);
            Check.due("use", x.segment(0, 0, 1), 6);
        }
    }

    // ---- replace and test

    private static void eachDigitIsReplaced() {
        ScannedDigits x = new ScannedDigits();
        x.setDigits(8);
        x.set(2, 1);
        x.test(1);
        x.passFrames(1);
        Check.due("all are broken", x.count(8), 64);
        Check.due("the first", x.replace(0), 8);
        Check.due("the last", x.replace(7), 8);
        Check.due("the first is whole", x.digit(0, 8), 0);
        Check.due("the last is whole", x.digit(7, 8), 0);
        Check.due("others stay", x.count(8), 48);
    }

    private static void replaceReturnsNoneToEight() {
        ScannedDigits x = Display.alwaysLit(0);
        x.set(2, 1);
        Check.due("none", x.replace(0), 0);
        x.setPattern(0, 128);
        x.pass(1);
        Check.due("one", x.replace(0), 1);
        x.setPattern(0, 255);
        x.pass(1);
        Check.due("all", x.replace(0), 8);
        Check.due("none again", x.replace(0), 0);
    }

    private static void testsFrom0To50() {
        for (int frames : new int[] {1, 49, 50, 0}) {
            ScannedDigits x = new ScannedDigits();
            x.test(7);
            Check.due("test(" + frames + ")", x.test(frames), 7);
            Check.due("frames left", x.count(6), frames);
            Check.due("all are wanted", x.litIn(0, 0), frames == 0 ? 0 : 255);
        }
    }

    private static void testsTakeThePlaceOfAnother() {
        ScannedDigits x = new ScannedDigits();
        x.test(50);
        x.passFrames(1);
        x.test(2);
        x.passFrames(1);
        Check.due("its last frame", x.count(6) * 1000 + x.litIn(0, 0), 1255);
        x.passFrames(1);
        Check.due("over", x.count(6) * 1000 + x.litIn(0, 0), 0);
        x.test(1);
        x.test(3);
        x.passFrames(2);
        Check.due("a longer one", x.count(6), 1);
        x.pass(3);
        x.test(0);
        Check.due("ended in the middle", x.count(6) * 1000 + x.litIn(0, 0), 0);
        Check.due("no frame is cut", x.count(4), 3);
    }

    private static void testReturnsTheFramesLeft() {
        ScannedDigits x = new ScannedDigits();
        x.test(50);
        Check.due("all", x.test(50), 50);
        x.pass(39);
        Check.due("the first is not over", x.test(50), 50);
        x.pass(1);
        Check.due("one is over", x.test(2), 49);
        x.passFrames(1);
        Check.due("the last", x.test(1), 1);
    }

    private static void testReturnsZeroIfNoneRan() {
        ScannedDigits x = new ScannedDigits();
        Check.due("none yet", x.test(0), 0);
        Check.due("none yet, again", x.test(1), 0);
        x.passFrames(1);
        Check.due("over", x.test(1), 0);
        x.test(0);
        Check.due("ended", x.test(1), 0);
    }
}
