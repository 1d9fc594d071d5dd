/** The edges of promises 12 and 13: passing time. */
public final class TimeEdgesTest {
    public static void main(String[] args) {
        Sentences.holds("12: ticks: 1 to 500", TimeEdgesTest::passFrom1To500);
        Sentences.holds("12: Returns how many segments were lit in them, each tick counted",
            TimeEdgesTest::passReturnsNoneToAll);
        Sentences.holds("12: Lets ticks pass. [over the end of frames]",
            TimeEdgesTest::passGoesOverFrames);
        Sentences.holds("13: frames: 1 to 20: how many frames end",
            TimeEdgesTest::passFramesFrom1To20);
        Sentences.holds("13: Lets the rest of the present frame pass",
            TimeEdgesTest::theRestOfAFrame);
        Sentences.holds("13: Lets the rest of the present frame pass [that has just begun]",
            TimeEdgesTest::theRestIsAWholeFrame);
        Sentences.holds("13: and whole frames behind it", TimeEdgesTest::wholeFramesBehindIt);
        Sentences.holds("13: Returns the time then", TimeEdgesTest::passFramesReturnsTheTime);
        Sentences.end();
    }

    private static void passFrom1To500() {
        for (int ticks : new int[] {1, 2, 499, 500}) {
            ScannedDigits x = new ScannedDigits();
            Check.due("pass(" + ticks + ")", x.pass(ticks), 0);
            Check.due("time", x.count(0), ticks);
            Check.due("frame", x.count(3), ticks / 40);
            Check.due("ticks of it", x.count(4), ticks % 40);
        }
    }

    private static void passReturnsNoneToAll() {
        Check.due("none", Display.alwaysLit(0).pass(500), 0);
        Check.due("one", Display.alwaysLit(16).pass(1), 1);
        Check.due("one in each tick", Display.alwaysLit(16).pass(500), 500);
        Check.due("all in a tick", Display.alwaysLit(255).pass(1), 8);
        Check.due("all in each tick", Display.alwaysLit(255).pass(500), 4000);
    }

    private static void passGoesOverFrames() {
        ScannedDigits x = new ScannedDigits();
        x.setPattern(3, 1);
        x.setPattern(0, 3);
        x.pass(38);
        Check.due("last lit tick, guard, first lit tick", x.pass(3), 1 + 0 + 2);
        Check.due("frame", x.count(3) * 10 + x.count(4), 11);
    }

    private static void passFramesFrom1To20() {
        for (int frames : new int[] {1, 2, 19, 20}) {
            ScannedDigits x = new ScannedDigits();
            Check.due("passFrames(" + frames + ")", x.passFrames(frames), 40 * frames);
            Check.due("frame", x.count(3), frames);
            Check.due("ticks of it", x.count(4), 0);
        }
    }

    private static void theRestOfAFrame() {
        for (int ticks : new int[] {1, 20, 38, 39}) {
            ScannedDigits x = new ScannedDigits();
            x.pass(ticks);
            Check.due("behind " + ticks + " ticks", x.passFrames(1), 40);
            Check.due("frame", x.count(3) * 100 + x.count(4), 100);
        }
        ScannedDigits cut = new ScannedDigits();
        cut.pass(7);
        cut.setWidth(0, 4);
        Check.due("behind a cut", cut.passFrames(1), 7 + 34);
    }

    private static void theRestIsAWholeFrame() {
        ScannedDigits x = new ScannedDigits();
        x.pass(40);
        Check.due("a frame has just begun", x.passFrames(1), 80);
        Check.due("and again", x.passFrames(1), 120);
        x.setDigits(1);
        Check.due("behind a cut", x.passFrames(1), 130);
    }

    private static void wholeFramesBehindIt() {
        ScannedDigits x = new ScannedDigits();
        x.pass(39);
        Check.due("a tick and a frame", x.passFrames(2), 80);
        x.pass(39);
        Check.due("a tick and 19 frames", x.passFrames(20), 120 + 19 * 40);
        x.pass(1);
        Check.due("39 ticks and 19 frames", x.passFrames(20), 880 + 20 * 40);
        Check.due("frames", x.count(3) * 100 + x.count(4), 4200);
    }

    private static void passFramesReturnsTheTime() {
        ScannedDigits shortest = new ScannedDigits();
        shortest.setDigits(1);
        shortest.setWidth(0, 4);
        Check.due("the shortest frame", shortest.passFrames(1), 4);
        ScannedDigits longest = new ScannedDigits();
        longest.setDigits(8);
        for (int digit = 0; digit < 8; digit++) {
            longest.setWidth(digit, 40);
        }
        Check.due("the longest frames", longest.passFrames(20), 6400);
        Check.due("and again", longest.passFrames(20), 12800);
        longest.undo();
        Check.due("behind an undo", longest.passFrames(1), 6720);
    }
}
