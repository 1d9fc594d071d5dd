/** Promises 17 to 19: undo, keep and restore. */
public final class HistoryTest {
    public static void main(String[] args) {
        promise17Undo();
        promise17NotTheText();
        promise18Keep();
        promise19Restore();
        Check.end();
    }

    private static void promise17Undo() {
        ScannedDigits x = new ScannedDigits();
        Check.due("empty", x.undo(), -4);
        for (int i = 1; i <= 7; i++) {
            x.setPattern(0, i);
            Check.due("states", x.count(12), Math.min(i, 5));
        }
        for (int left = 4; left >= 0; left--) {
            Check.due("undo", x.undo(), left);
            Check.due("pattern", x.digit(0, 0), left + 2);
        }
        Check.due("empty again", x.undo(), -4);
        Check.due("the oldest were dropped", x.digit(0, 0), 2);
        x.setPattern(0, 9);
        x.setPattern(0, 10);
        Check.due("undo of new ones", x.undo(), 1);
        Check.due("pattern of new ones", x.digit(0, 0), 9);
        x.setPattern(0, 11);
        x.undo();
        x.undo();
        Check.due("pattern behind all", x.digit(0, 0), 2);
    }

    private static void promise17NotTheText() {
        ScannedDigits x = new ScannedDigits();
        x.type('1');
        x.setPattern(0, 3);
        x.type('2');
        x.keep(0);
        x.type('3');
        x.undo();
        Check.due("text behind undo", x.count(13), 3);
        Check.due("the snapshot is not undone", x.restore(0), 0);
        Check.due("its pattern", x.digit(0, 0), 3);
        Check.due("text behind restore", x.count(13), 3);
        Check.due("the history behind restore", x.count(12), 1);
    }

    private static void promise18Keep() {
        ScannedDigits x = new ScannedDigits();
        x.pass(7);
        Check.due("keep(0)", x.keep(0), 7);
        Check.due("no act", x.count(12), 1);
        x.pass(3);
        Check.due("keep(1)", x.keep(1), 10);
        x.pass(5);
        Check.due("restore(0)", x.restore(0), 7);
        Check.due("restore(1)", x.restore(1), 10);
        x.pass(90);
        Check.due("keep(0) in place of it", x.keep(0), 100);
        x.pass(1);
        Check.due("restore(0) again", x.restore(0), 100);
        Check.due("restore(1) again", x.restore(1), 10);
        Check.due("keep(2)", x.keep(2), -1);
        Check.due("keep(-1)", x.keep(-1), -1);
    }

    private static void promise19Restore() {
        ScannedDigits x = new ScannedDigits();
        Check.due("none", x.restore(1), -4);
        Check.due("unknown", x.restore(2), -1);
        Check.due("unknown, too", x.restore(-1), -1);
        Check.due("nothing recorded", x.count(12), 0);
        x.keep(1);
        Check.due("the other is empty", x.restore(0), -4);
        x.setPattern(0, 5);
        x.pass(50);
        Check.due("restore(1)", x.restore(1), 0);
        Check.due("an act", x.count(12), 3);
        Check.due("pattern", x.digit(0, 0), 0);
        x.setPattern(0, 9);
        Check.due("it stays", x.restore(1), 0);
        Check.due("as it was", x.digit(0, 0), 0);
        x.undo();
        Check.due("undo of a restore", x.digit(0, 0), 9);
        x.undo();
        x.undo();
        Check.due("undo of the first one", x.count(0) * 10 + x.digit(0, 0), 505);
    }
}
