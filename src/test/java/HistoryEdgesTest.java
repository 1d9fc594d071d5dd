import java.util.ArrayList;
import java.util.List;
import java.util.function.ToIntFunction;

/** The edges of the history and the snapshots: those of "Terms", and of promises 17 to 19. */
public final class HistoryEdgesTest {
    public static void main(String[] args) {
        history();
        acts();
        snapshots();
        Sentences.end();
    }

    private static void history() {
        Sentences.holds("A history of at most 5 states is kept", HistoryEdgesTest::atMost5);
        Sentences.holds("when one more is recorded, the oldest one is dropped",
            HistoryEdgesTest::theOldestIsDropped);
        Sentences.holds("undo() removes and restores the latest one",
            HistoryEdgesTest::undoTakesTheLatest);
        Sentences.holds("17: Returns the number of states that are left",
            HistoryEdgesTest::undoReturnsTheStatesLeft);
        Sentences.holds("17: NONE if the history is empty", HistoryEdgesTest::undoOfNothing);
        Sentences.holds("A state is everything but the text, the history and the snapshots."
            + " [what undo brings back]", HistoryEdgesTest::undoBringsBackEverything);
        Sentences.holds("A state is everything but the text, the history and the snapshots."
            + " [what undo leaves]", HistoryEdgesTest::undoLeavesTheRest);
    }

    private static void acts() {
        Sentences.holds("Each call of a method that is described as an act [..] records the state"
            + " before it.", HistoryEdgesTest::eachActIsRecorded);
        Sentences.holds("Each call [..] records [also one that changes nothing]",
            HistoryEdgesTest::actsThatChangeNothingAreRecorded);
        Sentences.holds("and that returns no error and not NONE",
            HistoryEdgesTest::refusedActsAreNotRecorded);
        Sentences.holds("a method that is described as an act [and no other]",
            HistoryEdgesTest::otherCallsAreNotRecorded);
    }

    private static void snapshots() {
        Sentences.holds("There are two slots for snapshots, empty at first.",
            HistoryEdgesTest::slotsAreEmptyAtFirst);
        Sentences.holds("18: slot: 0 or 1", HistoryEdgesTest::eachSlotHasItsOwn);
        Sentences.holds("18: Takes a snapshot of the state, in place of what is there.",
            HistoryEdgesTest::keepTakesThePlace);
        Sentences.holds("18: Returns the time", HistoryEdgesTest::keepReturnsTheTime);
        Sentences.holds("19: Restores the state of a snapshot",
            HistoryEdgesTest::restoreBringsBackEverything);
        Sentences.holds("19: which stays", HistoryEdgesTest::snapshotsStay);
        Sentences.holds("19: This is an act.", HistoryEdgesTest::restoreIsAnAct);
        Sentences.holds("19: Returns the time then", HistoryEdgesTest::restoreReturnsTheTime);
        Sentences.holds("19: UNKNOWN; NONE if there is no such snapshot",
            HistoryEdgesTest::restoreOfNothing);
    }

    // ---- history

    private static void atMost5() {
        ScannedDigits x = new ScannedDigits();
        Check.due("none at first", x.count(12), 0);
        for (int act = 1; act <= 30; act++) {
            x.setPattern(0, act);
            Check.due("states behind " + act, x.count(12), Math.min(act, 5));
        }
    }

    /** Undoes all: the patterns of digit 0 that come back, the latest first. */
    private static void comesBack(String when, ScannedDigits x, int... patterns) {
        for (int i = 0; i < patterns.length; i++) {
            Check.due(when + ": undo", x.undo(), patterns.length - 1 - i);
            Check.due(when + ": pattern", x.digit(0, 0), patterns[i]);
        }
        Check.due(when + ": no more", x.undo(), -4);
    }

    private static ScannedDigits behindActs(int acts) {
        ScannedDigits x = new ScannedDigits();
        for (int act = 1; act <= acts; act++) {
            x.setPattern(0, act);
        }
        return x;
    }

    private static void theOldestIsDropped() {
        comesBack("4 acts", behindActs(4), 3, 2, 1, 0);
        comesBack("5 acts", behindActs(5), 4, 3, 2, 1, 0);
        comesBack("6 acts", behindActs(6), 5, 4, 3, 2, 1);
        comesBack("9 acts", behindActs(9), 8, 7, 6, 5, 4);
        comesBack("10 acts", behindActs(10), 9, 8, 7, 6, 5);
        comesBack("11 acts", behindActs(11), 10, 9, 8, 7, 6);
        // Full, three taken back, four new ones: one more than there is room for.
        ScannedDigits x = behindActs(7);
        x.undo();
        x.undo();
        x.undo();
        for (int pattern = 100; pattern < 104; pattern++) {
            x.setPattern(0, pattern);
        }
        comesBack("4 acts behind 3 undos", x, 102, 101, 100, 4, 3);
    }

    private static void undoTakesTheLatest() {
        ScannedDigits x = behindActs(3);
        x.undo();
        Check.due("the latest", x.digit(0, 0), 2);
        x.setPattern(0, 77);
        x.undo();
        Check.due("the latest again", x.digit(0, 0), 2);
        comesBack("those before", x, 1, 0);
        x.setPattern(0, 88);
        comesBack("behind the empty one", x, 0);
        comesBack("empty", x);
    }

    private static void undoReturnsTheStatesLeft() {
        ScannedDigits x = behindActs(1);
        Check.due("of one", x.undo(), 0);
        Check.due("told", x.count(12), 0);
        ScannedDigits y = behindActs(8);
        Check.due("of five", y.undo(), 4);
        Check.due("told", y.count(12), 4);
    }

    private static void undoOfNothing() {
        ScannedDigits x = new ScannedDigits();
        Check.due("a new object", x.undo(), -4);
        x.pass(7);
        x.undo();
        x.setDigits(1);
        x.undo();
        String before = Display.tells(x);
        ScannedDigits same = new ScannedDigits();
        Check.due("none is left", x.undo(), -4);
        Check.due("none is left, still", x.undo(), -4);
        Check.due("none", x.count(12), 0);
        Check.dueText("as new", Display.tells(same), before);
    }

    /** The acts, each by a call that is accepted; a snapshot of a new object is in slot 1. */
    private static List<ToIntFunction<ScannedDigits>> acts(boolean isChange) {
        List<ToIntFunction<ScannedDigits>> acts = new ArrayList<>();
        acts.add(x -> x.setDigits(isChange ? 5 : 4));
        acts.add(x -> x.setWidth(0, isChange ? 11 : 10));
        acts.add(x -> x.setGuard(0, isChange ? 2 : 1));
        acts.add(x -> x.setBrightness(0, isChange ? 3 : 15));
        acts.add(x -> x.setPattern(0, isChange ? 3 : 0));
        acts.add(x -> x.setGroup(0, isChange ? 3 : 0));
        acts.add(x -> x.setBlink(1, 5, isChange ? 3 : 5));
        acts.add(x -> x.set(0, isChange ? 3 : 8));
        acts.add(x -> x.set(1, isChange ? 3 : 200));
        acts.add(x -> x.set(2, isChange ? 3 : 100000));
        acts.add(x -> x.replace(0));
        acts.add(x -> x.test(isChange ? 3 : 0));
        acts.add(x -> x.show());
        acts.add(x -> x.restore(1));
        if (isChange) {
            acts.add(x -> x.pass(1));
            acts.add(x -> x.passFrames(1));
        }
        return acts;
    }

    private static ScannedDigits kept() {
        ScannedDigits x = new ScannedDigits();
        x.keep(1);
        return x;
    }

    private static void eachActIsRecorded() {
        for (ToIntFunction<ScannedDigits> act : acts(true)) {
            ScannedDigits x = kept();
            Check.due("answers no error", act.applyAsInt(x) >= 0 ? 1 : 0, 1);
            Check.due("states", x.count(12), 1);
            act.applyAsInt(x);
            Check.due("states behind the second", x.count(12), 2);
            Check.due("undo of both", x.undo() * 10 + x.undo(), 10);
            Check.dueText("as new", Display.tells(x), Display.tells(kept()));
        }
    }

    private static void actsThatChangeNothingAreRecorded() {
        for (ToIntFunction<ScannedDigits> act : acts(false)) {
            ScannedDigits x = kept();
            Check.due("answers no error", act.applyAsInt(x) >= 0 ? 1 : 0, 1);
            Check.due("states", x.count(12), 1);
            x.undo();
            Check.dueText("nothing is changed", Display.tells(x), Display.tells(kept()));
        }
    }

    private static void refusedActsAreNotRecorded() {
        ScannedDigits x = behindActs(2);
        x.type('x');
        x.setDigits(9);
        x.setWidth(4, 10);
        x.setWidth(0, 41);
        x.setGuard(4, 0);
        x.setGuard(0, 4);
        x.setBrightness(4, 0);
        x.setBrightness(0, 16);
        x.setPattern(4, 0);
        x.setPattern(0, 256);
        x.setGroup(4, 0);
        x.setGroup(0, 4);
        x.setBlink(0, 5, 5);
        x.setBlink(1, 51, 5);
        x.set(3, 5);
        x.set(0, 1);
        x.replace(4);
        x.test(51);
        x.pass(501);
        x.passFrames(21);
        x.show();
        x.restore(2);
        x.restore(1);
        Check.due("states", x.count(12), 2);
        comesBack("both acts", x, 1, 0);
    }

    private static void otherCallsAreNotRecorded() {
        ScannedDigits x = behindActs(2);
        x.type('1');
        Check.due("type", x.count(12), 2);
        x.clearText();
        Check.due("clearText", x.count(12), 2);
        x.keep(0);
        x.keep(1);
        Check.due("keep", x.count(12), 2);
        x.digit(0, 0);
        x.segment(0, 0, 0);
        x.litIn(0, 500);
        x.steadyGlow(0);
        x.current(0);
        x.thousandths(0);
        x.duty(0);
        x.count(0);
        x.group(0, 0);
        Check.due("what is told", x.count(12), 2);
        comesBack("both acts", x, 1, 0);
    }

    /** A display in which nothing that a state holds is as at first. */
    private static ScannedDigits used() {
        ScannedDigits x = new ScannedDigits();
        x.setDigits(8);
        x.set(0, 9);
        x.set(1, 300);
        x.set(2, 11);
        for (int digit = 0; digit < 8; digit++) {
            x.setWidth(digit, 9 - digit / 2);
            x.setGuard(digit, digit & 3);
            x.setBrightness(digit, 15 - digit % 5);
            x.setPattern(digit, 255 - 3 * digit);
            x.setGroup(digit, digit & 3);
        }
        for (int group = 1; group <= 3; group++) {
            x.setBlink(group, 3 - group + 1, group);
        }
        x.passFrames(3);
        x.test(5);
        x.pass(41);
        return x;
    }

    /** Five acts that together change all that a state holds. */
    private static void changeAll(ScannedDigits x, int way) {
        if (way == 0) {
            x.setDigits(1);
            x.setWidth(0, 40);
            x.setGuard(0, 3);
            x.setBrightness(0, 1);
            x.setPattern(0, 1);
        } else if (way == 1) {
            x.setGroup(7, 0);
            x.setBlink(1, 50, 50);
            x.set(0, 2);
            x.set(1, 1);
            x.set(2, 1000000);
        } else if (way == 2) {
            x.replace(0);
            x.test(0);
            x.pass(500);
            x.passFrames(20);
            x.show();
        } else {
            x.setDigits(1);
            x.setDigits(8);
            x.test(50);
            x.pass(500);
            x.setDigits(2);
        }
    }

    private static void undoBringsBackEverything() {
        for (int way = 0; way < 4; way++) {
            ScannedDigits x = used();
            changeAll(x, way);
            Check.due("changed", Display.state(x).equals(Display.state(used())) ? 1 : 0, 0);
            ScannedDigits y = used();
            changeAll(y, way);
            for (int undo = 0; undo < 5; undo++) {
                y.undo();
            }
            Check.dueText("undone in way " + way, Display.state(y), Display.state(used()));
            // Behind it, all goes on as if nothing had been done.
            ScannedDigits z = used();
            changeAll(z, way);
            for (int undo = 0; undo < 5; undo++) {
                z.undo();
            }
            z.pass(333);
            ScannedDigits same = used();
            same.pass(333);
            Check.dueText("what follows in way " + way, Display.state(z), Display.state(same));
        }
    }

    private static void undoLeavesTheRest() {
        ScannedDigits x = new ScannedDigits();
        x.type('1');
        x.setPattern(0, 3);
        x.type('2');
        x.keep(0);
        x.setPattern(0, 4);
        x.keep(1);
        x.clearText();
        Display.typeAll(x, "777");
        x.undo();
        x.undo();
        Check.due("the text", x.count(13), 3);
        Check.due("the text", x.show(), 3);
        Check.dueText("the text", Display.patterns(x), "7 7 7 0");
        x.restore(0);
        Check.due("the snapshot 0", x.digit(0, 0), 3);
        x.restore(1);
        Check.due("the snapshot 1", x.digit(0, 0), 4);
    }

    // ---- snapshots

    private static void slotsAreEmptyAtFirst() {
        ScannedDigits x = new ScannedDigits();
        Check.due("slot 0", x.restore(0), -4);
        Check.due("slot 1", x.restore(1), -4);
        x.keep(1);
        Check.due("slot 0, still", x.restore(0), -4);
        ScannedDigits y = new ScannedDigits();
        y.keep(0);
        Check.due("slot 1, still", y.restore(1), -4);
    }

    private static void eachSlotHasItsOwn() {
        ScannedDigits x = new ScannedDigits();
        x.setPattern(0, 1);
        x.keep(0);
        x.setPattern(0, 2);
        x.keep(1);
        x.setPattern(0, 3);
        x.restore(0);
        Check.due("slot 0", x.digit(0, 0), 1);
        x.restore(1);
        Check.due("slot 1", x.digit(0, 0), 2);
        Check.due("slot -1", x.keep(-1), -1);
        Check.due("slot 2", x.keep(2), -1);
    }

    private static void keepTakesThePlace() {
        ScannedDigits x = new ScannedDigits();
        x.setDigits(8);
        x.setPattern(7, 9);
        x.keep(0);
        x.keep(1);
        x.setDigits(1);
        x.pass(5);
        x.keep(0);
        x.setDigits(3);
        x.restore(0);
        Check.due("the new one", x.count(1) * 10 + x.count(4), 15);
        Check.due("digit 1", x.digit(1, 0), -1);
        x.restore(1);
        Check.due("the other slot", x.count(1) * 10 + x.count(4), 80);
        Check.due("its digit 7", x.digit(7, 0), 9);
    }

    private static void keepReturnsTheTime() {
        ScannedDigits x = new ScannedDigits();
        Check.due("at the time 0", x.keep(0), 0);
        x.pass(500);
        Check.due("behind 500 ticks", x.keep(1), 500);
        x.undo();
        Check.due("behind an undo", x.keep(1), 0);
    }

    private static void restoreBringsBackEverything() {
        for (int way = 0; way < 4; way++) {
            ScannedDigits x = used();
            int slot = way & 1;
            x.keep(slot);
            changeAll(x, way);
            x.restore(slot);
            // The text is empty in both; the history is left out.
            Check.dueText("restored in way " + way, Display.state(x), Display.state(used()));
            ScannedDigits y = used();
            y.keep(slot);
            changeAll(y, way);
            y.restore(slot);
            y.passFrames(4);
            ScannedDigits same = used();
            same.passFrames(4);
            Check.dueText("what follows in way " + way, Display.state(y), Display.state(same));
        }
    }

    private static void snapshotsStay() {
        ScannedDigits x = new ScannedDigits();
        x.setPattern(0, 1);
        x.pass(7);
        x.keep(0);
        for (int i = 0; i < 3; i++) {
            x.setPattern(0, 99);
            x.pass(100);
            Check.due("restore " + i, x.restore(0), 7);
            Check.due("pattern " + i, x.digit(0, 0), 1);
            Check.due("glow " + i, x.segment(0, 0, 0), 865);
        }
        x.undo();
        Check.due("behind an undo", x.restore(0), 7);
    }

    private static void restoreIsAnAct() {
        ScannedDigits x = new ScannedDigits();
        x.type('1');
        x.keep(0);
        x.setPattern(0, 5);
        x.type('2');
        x.restore(0);
        Check.due("states", x.count(12), 2);
        Check.due("the text stays", x.count(13), 2);
        x.undo();
        Check.due("undone", x.digit(0, 0), 5);
        x.undo();
        Check.due("all undone", x.digit(0, 0), 0);
        ScannedDigits y = behindActs(5);
        y.keep(0);
        y.restore(0);
        comesBack("a full history", y, 5, 4, 3, 2, 1);
    }

    private static void restoreReturnsTheTime() {
        ScannedDigits x = new ScannedDigits();
        x.keep(0);
        x.pass(500);
        x.keep(1);
        x.passFrames(20);
        Check.due("the time 0", x.restore(0), 0);
        Check.due("told", x.count(0), 0);
        Check.due("the time 500", x.restore(1), 500);
        Check.due("told", x.count(0), 500);
    }

    private static void restoreOfNothing() {
        ScannedDigits x = new ScannedDigits();
        for (int slot : new int[] {-1, 2, Integer.MIN_VALUE, Integer.MAX_VALUE}) {
            Check.due("slot " + slot, x.restore(slot), -1);
        }
        Check.due("slot 0", x.restore(0), -4);
        Check.due("slot 1", x.restore(1), -4);
        Check.due("no act", x.count(12), 0);
        x.keep(0);
        x.keep(1);
        Check.due("slot -1 of two", x.restore(-1), -1);
        Check.due("slot 2 of two", x.restore(2), -1);
    }
}
