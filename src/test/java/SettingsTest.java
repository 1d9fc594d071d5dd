/** Promises 1 to 11: a new object and the settings. */
public final class SettingsTest {
    public static void main(String[] args) {
        promise1NewObject();
        promise2SetDigits();
        promise2CutsTheFrame();
        promise3SetWidth();
        promise4SetGuard();
        promise5SetBrightness();
        promise6SetPattern();
        promise7SetGroup();
        promise8SetBlink();
        promise9SetDecayAndThreshold();
        promise9SetLife();
        promise10Replace();
        promise11Test();
        promise11TestLightsAll();
        Check.end();
    }

    private static void promise1NewObject() {
        ScannedDigits x = new ScannedDigits();
        int[] counts = {0, 4, 40, 0, 0, 0, 0, 0, 0, 8, 200, 100000, 0, 0};
        for (int what = 0; what < counts.length; what++) {
            Check.due("new: count " + what, x.count(what), counts[what]);
        }
        for (int digit = 0; digit < 4; digit++) {
            isNewDigit(x, digit);
        }
        Check.due("new: digit 4", x.digit(4, 0), -1);
        for (int what = 0; what <= 2; what++) {
            Check.dueFloat("new: current " + what, x.current(what), 0f);
        }
        for (int group = 1; group <= 3; group++) {
            Check.due("new: on", x.group(group, 0), 5);
            Check.due("new: off", x.group(group, 1), 5);
            Check.due("new: is on", x.group(group, 2), 1);
            Check.due("new: digits in group", x.group(group, 3), 0);
        }
        Check.due("new: digits in group 0", x.group(0, 3), 4);
        Check.due("new: undo", x.undo(), -4);
        Check.due("new: restore 0", x.restore(0), -4);
        Check.due("new: restore 1", x.restore(1), -4);
        Check.due("new: show", x.show(), 0);
    }

    private static void isNewDigit(ScannedDigits x, int digit) {
        int[] told = {0, 10, 1, 15, 0, 9, 10 * digit, 0, 0, 0, 32, 0};
        for (int what = 0; what < told.length; what++) {
            Check.due("new digit " + digit + ": " + what, x.digit(digit, what), told[what]);
        }
        for (int segment = 0; segment < 8; segment++) {
            for (int what = 0; what <= 3; what++) {
                Check.due("new segment", x.segment(digit, segment, what), 0);
            }
        }
    }

    private static void promise2SetDigits() {
        ScannedDigits x = new ScannedDigits();
        Check.due("setDigits(8)", x.setDigits(8), 4);
        Check.due("length", x.count(2), 80);
        isNewDigit(x, 7);
        // The last digit gets all that a digit can have, and is gone.
        x.set(2, 3);
        x.setWidth(7, 12);
        x.setGuard(7, 2);
        x.setBrightness(7, 9);
        x.setPattern(7, 3);
        x.setGroup(7, 2);
        x.setPattern(0, 7);
        x.passFrames(1);
        Check.due("use before", x.segment(7, 0, 1), 3);
        Check.due("broken before", x.count(8), 5);
        int driven = x.count(7);
        Check.due("group before", x.group(2, 3), 1);
        Check.due("setDigits(7)", x.setDigits(7), 8);
        Check.due("digit 7 gone", x.digit(7, 0), -1);
        Check.due("broken without it", x.count(8), 3);
        Check.due("driven ticks with it", x.count(7), driven);
        Check.due("group without it", x.group(2, 3), 0);
        Check.due("digit 0 keeps its pattern", x.digit(0, 0), 7);
        Check.due("digit 0 keeps its use", x.segment(0, 0, 1), 3);
        Check.due("setDigits(8) again", x.setDigits(8), 7);
        isNewDigit(x, 7);
        Check.due("digit 0 keeps its broken ones", x.digit(0, 8), 7);
        Check.due("setDigits(1)", x.setDigits(1), 8);
        Check.due("length of 1", x.count(2), 10);
        Check.due("setDigits(0)", x.setDigits(0), -2);
        Check.due("setDigits(9)", x.setDigits(9), -2);
        Check.due("still 1", x.count(1), 1);
    }

    private static void promise2CutsTheFrame() {
        ScannedDigits x = new ScannedDigits();
        x.test(3);
        x.pass(13);
        Check.due("the same number", x.setDigits(4), 4);
        Check.due("is an act", x.count(12), 3);
        Check.due("cuts nothing", x.count(3), 0);
        Check.due("ticks stay", x.count(4), 13);
        Check.due("test stays", x.count(6), 3);
        Check.due("another number", x.setDigits(5), 4);
        Check.due("cuts", x.count(3), 1);
        Check.due("begins a frame", x.count(4), 0);
        Check.due("first slot", x.count(5), 0);
        Check.due("a frame of the test", x.count(6), 2);
        Check.due("time stays", x.count(0), 13);
        Check.due("cut before its first tick", x.setDigits(4), 5);
        Check.due("counts, too", x.count(3), 2);
        Check.due("also for the test", x.count(6), 1);
        x.setDigits(3);
        Check.due("ends the test", x.count(6), 0);
        x.setDigits(2);
        Check.due("no test below 0", x.count(6), 0);
        Check.due("frames", x.count(3), 4);
    }

    private static void promise3SetWidth() {
        ScannedDigits x = new ScannedDigits();
        x.test(2);
        x.pass(5);
        Check.due("the same width", x.setWidth(1, 10), 40);
        Check.due("cuts nothing", x.count(4), 5);
        Check.due("is an act", x.count(12), 3);
        Check.due("setWidth(1, 40)", x.setWidth(1, 40), 70);
        Check.due("cuts", x.count(4), 0);
        Check.due("next frame", x.count(3), 1);
        Check.due("test", x.count(6), 1);
        Check.due("setWidth(1, 4)", x.setWidth(1, 4), 34);
        Check.due("next frame again", x.count(3), 2);
        Check.due("test ends", x.count(6), 0);
        Check.due("width", x.digit(1, 1), 4);
        Check.due("slot of 2", x.digit(2, 6), 14);
        Check.due("lit part", x.digit(1, 5), 3);
        Check.due("setWidth(1, 3)", x.setWidth(1, 3), -2);
        Check.due("setWidth(1, 41)", x.setWidth(1, 41), -2);
        Check.due("setWidth(4, 10)", x.setWidth(4, 10), -1);
        Check.due("setWidth(-1, 3)", x.setWidth(-1, 3), -1);
        Check.due("width stays", x.digit(1, 1), 4);
    }

    private static void promise4SetGuard() {
        ScannedDigits x = new ScannedDigits();
        x.pass(5);
        Check.due("setGuard(0, 0)", x.setGuard(0, 0), 10);
        Check.due("setGuard(0, 3)", x.setGuard(0, 3), 7);
        Check.due("no frame is cut", x.count(4), 5);
        Check.due("guard", x.digit(0, 2), 3);
        Check.due("the least lit part", x.setWidth(0, 4) + x.digit(0, 5), 34 + 1);
        x.setBrightness(0, 14);
        Check.due("rounds down", x.setGuard(0, 2), 1);
        Check.due("setGuard(0, 4)", x.setGuard(0, 4), -2);
        Check.due("setGuard(0, -1)", x.setGuard(0, -1), -2);
        Check.due("setGuard(4, 4)", x.setGuard(4, 4), -1);
        Check.due("guard stays", x.digit(0, 2), 2);
        Check.due("history", x.count(12), 5);
    }

    private static void promise5SetBrightness() {
        ScannedDigits x = new ScannedDigits();
        Check.due("setBrightness(3, 0)", x.setBrightness(3, 0), 0);
        Check.due("setBrightness(3, 1)", x.setBrightness(3, 1), 0);
        Check.due("setBrightness(3, 2)", x.setBrightness(3, 2), 1);
        Check.due("setBrightness(3, 14)", x.setBrightness(3, 14), 8);
        Check.due("setBrightness(3, 15)", x.setBrightness(3, 15), 9);
        Check.due("brightness", x.setBrightness(3, 8) * 100 + x.digit(3, 3), 408);
        Check.due("setBrightness(3, 16)", x.setBrightness(3, 16), -2);
        Check.due("setBrightness(3, -1)", x.setBrightness(3, -1), -2);
        Check.due("setBrightness(4, 16)", x.setBrightness(4, 16), -1);
        Check.due("brightness stays", x.digit(3, 3), 8);
        // It works at once, in the middle of a lit part.
        ScannedDigits y = new ScannedDigits();
        y.setPattern(0, 1);
        Check.due("3 ticks", y.pass(3), 3);
        y.setBrightness(0, 7);
        Check.due("lit part of 4", y.pass(7), 1);
        Check.due("driven", y.digit(0, 11), 4);
    }

    private static void promise6SetPattern() {
        ScannedDigits x = new ScannedDigits();
        Check.due("setPattern(0, 255)", x.setPattern(0, 255), 0);
        Check.due("setPattern(0, 0)", x.setPattern(0, 0), 255);
        Check.due("setPattern(3, 129)", x.setPattern(3, 129), 0);
        Check.due("pattern", x.digit(3, 0), 129);
        Check.due("setPattern(3, 256)", x.setPattern(3, 256), -2);
        Check.due("setPattern(3, -1)", x.setPattern(3, -1), -2);
        Check.due("setPattern(4, -1)", x.setPattern(4, -1), -1);
        Check.due("pattern stays", x.digit(3, 0), 129);
        Check.due("lit at once", x.litIn(3, 30), 129);
    }

    private static void promise7SetGroup() {
        ScannedDigits x = new ScannedDigits();
        Check.due("setGroup(1, 3)", x.setGroup(1, 3), 0);
        Check.due("setGroup(1, 2)", x.setGroup(1, 2), 3);
        Check.due("group", x.digit(1, 4), 2);
        Check.due("digits of 2", x.group(2, 3), 1);
        Check.due("digits of 0", x.group(0, 3), 3);
        Check.due("setGroup(1, 4)", x.setGroup(1, 4), -1);
        Check.due("setGroup(1, -1)", x.setGroup(1, -1), -1);
        Check.due("setGroup(4, 0)", x.setGroup(4, 0), -1);
        Check.due("group stays", x.digit(1, 4), 2);
        Check.due("setGroup(1, 0)", x.setGroup(1, 0), 2);
    }

    private static void promise8SetBlink() {
        ScannedDigits x = new ScannedDigits();
        x.setGroup(1, 1);
        x.setGroup(2, 1);
        x.setPattern(1, 1);
        Check.due("setBlink(1, 2, 3)", x.setBlink(1, 2, 3), 2);
        Check.due("on", x.group(1, 0), 2);
        Check.due("off", x.group(1, 1), 3);
        int[] isOn = {1, 1, 0, 0, 0, 1, 1, 0};
        for (int frame = 0; frame < isOn.length; frame++) {
            Check.due("on in frame " + frame, x.group(1, 2), isOn[frame]);
            Check.due("lit in frame " + frame, x.pass(40), 9 * isOn[frame]);
        }
        // The frame 8 is off by 2 and 3; new numbers work at once, by the number of the frame.
        Check.due("off in frame 8", x.group(1, 2), 0);
        Check.due("setBlink(1, 1, 1)", x.setBlink(1, 1, 1), 2);
        Check.due("on in frame 8", x.group(1, 2), 1);
        Check.due("nothing else changes", x.count(3) * 100 + x.count(4), 800);
        Check.due("setBlink(3, 50, 50)", x.setBlink(3, 50, 50), 0);
        Check.due("setBlink(3, 1, 0)", x.setBlink(3, 1, 0), 0);
        x.pass(40);
        Check.due("never off", x.group(3, 2), 1);
        Check.due("setBlink(3, 0, 5)", x.setBlink(3, 0, 5), -2);
        Check.due("setBlink(3, 51, 5)", x.setBlink(3, 51, 5), -2);
        Check.due("setBlink(3, 5, -1)", x.setBlink(3, 5, -1), -2);
        Check.due("setBlink(3, 5, 51)", x.setBlink(3, 5, 51), -2);
        Check.due("setBlink(0, 5, 5)", x.setBlink(0, 5, 5), -1);
        Check.due("setBlink(4, 0, 5)", x.setBlink(4, 0, 5), -1);
        Check.due("on stays", x.group(3, 0), 1);
        Check.due("off stays", x.group(3, 1), 0);
    }

    private static void promise9SetDecayAndThreshold() {
        ScannedDigits x = new ScannedDigits();
        Check.due("set(0, 2)", x.set(0, 2), 8);
        Check.due("set(0, 50)", x.set(0, 50), 2);
        Check.due("set(1, 1)", x.set(1, 1), 200);
        Check.due("set(1, 1000)", x.set(1, 1000), 1);
        Check.due("set(2, 1)", x.set(2, 1), 100000);
        Check.due("set(2, 1000000)", x.set(2, 1000000), 1);
        Check.due("set(0, 1)", x.set(0, 1), -2);
        Check.due("set(0, 51)", x.set(0, 51), -2);
        Check.due("set(1, 0)", x.set(1, 0), -2);
        Check.due("set(1, 1001)", x.set(1, 1001), -2);
        Check.due("set(2, 0)", x.set(2, 0), -2);
        Check.due("set(2, 1000001)", x.set(2, 1000001), -2);
        Check.due("set(-1, 0)", x.set(-1, 0), -1);
        Check.due("set(3, 5)", x.set(3, 5), -1);
        Check.due("settings stay", x.count(9) + x.count(10) + x.count(11), 50 + 1000 + 1000000);
        x.setPattern(0, 1);
        x.pass(2);
        Check.due("glow", x.segment(0, 0, 0), 437);
        x.set(1, 437);
        Check.due("seen at the threshold", x.digit(0, 7), 1);
        x.set(1, 438);
        Check.due("not seen below it", x.digit(0, 7), 0);
        x.setPattern(0, 0);
        x.set(0, 3);
        x.pass(1);
        Check.due("decay of 3", x.segment(0, 0, 0), 437 - 145 - 1);
    }

    private static void promise9SetLife() {
        ScannedDigits x = new ScannedDigits();
        x.set(2, 2);
        x.setPattern(0, 1);
        x.pass(3);
        Check.due("breaks at its life", x.digit(0, 8) * 10 + x.segment(0, 0, 1), 12);
        x.set(2, 10);
        Check.due("broken ones stay so", x.digit(0, 8), 1);
        x.setPattern(0, 3);
        Check.due("only b is lit", x.pass(4), 4);
        x.set(2, 3);
        Check.due("beyond its life, but whole", x.digit(0, 8), 1);
        Check.due("lit once more", x.pass(2), 1);
        Check.due("broken behind it", x.digit(0, 8), 3);
        Check.due("use of b", x.segment(0, 1, 1), 5);
    }

    private static void promise10Replace() {
        ScannedDigits x = new ScannedDigits();
        x.set(2, 4);
        x.setPattern(0, 7);
        x.setPattern(1, 1);
        x.setGroup(0, 2);
        x.pass(16);
        Check.due("broken", x.count(8), 4);
        Check.due("replace(0)", x.replace(0), 3);
        Check.due("broken then", x.count(8), 1);
        Check.due("glow", x.digit(0, 9), 0);
        Check.due("use", x.segment(0, 0, 1), 0);
        Check.due("driven ticks stay", x.digit(0, 11), 9);
        Check.due("pattern stays", x.digit(0, 0), 7);
        Check.due("group stays", x.digit(0, 4), 2);
        Check.due("another digit stays", x.digit(1, 8), 1);
        Check.due("another glow stays", x.digit(1, 9) > 0 ? 1 : 0, 1);
        Check.due("replace(2)", x.replace(2), 0);
        Check.due("replace(4)", x.replace(4), -1);
        Check.due("replace(-1)", x.replace(-1), -1);
        Check.due("history", x.count(12), 5);
    }

    private static void promise11Test() {
        ScannedDigits x = new ScannedDigits();
        Check.due("test(0)", x.test(0), 0);
        Check.due("is an act", x.count(12), 1);
        Check.due("test(50)", x.test(50), 0);
        Check.due("test(3)", x.test(3), 50);
        x.pass(39);
        Check.due("rest of the frame", x.count(6), 3);
        x.pass(1);
        Check.due("a frame less", x.count(6), 2);
        x.pass(20);
        Check.due("test(1)", x.test(1), 2);
        x.pass(19);
        Check.due("the rest counts as one", x.count(6), 1);
        x.pass(1);
        Check.due("over", x.count(6), 0);
        x.test(5);
        Check.due("test(0) ends it", x.test(0), 5);
        Check.due("no test", x.count(6), 0);
        Check.due("dark", x.pass(40), 0);
        Check.due("test(51)", x.test(51), -2);
        Check.due("test(-1)", x.test(-1), -2);
    }

    private static void promise11TestLightsAll() {
        ScannedDigits x = new ScannedDigits();
        x.setBrightness(0, 0);
        x.setGroup(1, 1);
        x.setBlink(1, 1, 50);
        x.passFrames(1);
        Check.due("group is off", x.group(1, 2), 0);
        x.setPattern(2, 1);
        x.test(1);
        Check.due("group is off in the test, too", x.group(1, 2), 0);
        Check.due("brightness stays", x.digit(0, 3) * 10 + x.digit(0, 5), 0);
        Check.due("all segments", x.pass(40), 4 * 9 * 8);
        Check.due("behind the test", x.pass(40), 9);
        // Broken segments are not lit in a test either.
        x.set(2, 1);
        x.test(2);
        Check.due("each breaks at once", x.pass(40), 4 * 8);
        Check.due("all are broken", x.pass(40), 0);
        Check.due("driven all the same", x.digit(0, 11), 9 + 9 + 9);
    }
}
