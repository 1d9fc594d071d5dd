/** Promises 17 to 19: undo, keep and restore. */
public final class HistoryTest {
    public static void main(String[] args) {
        promise17Undo();
        promise17RestoresAll();
        promise17EachAct();
        promise17NotTheText();
        promise18Keep();
        promise19Restore();
        promise19RestoresAll();
        Check.end();
    }

    private static void promise17Undo() {
        ScannedDigits x = new ScannedDigits();
        Check.due("empty", x.undo(), -4);
        for (int i = 1; i <= 7; i++) {
            x.setPattern(0, i);
            Check.due("states", x.count(12), Math.min(i, 5));
        }
        for (int left = 4; left >= 0; left--) {
            Check.due("undo", x.undo(), left);
            Check.due("pattern", x.digit(0, 0), left + 2);
        }
        Check.due("empty again", x.undo(), -4);
        Check.due("the oldest were dropped", x.digit(0, 0), 2);
        x.setPattern(0, 9);
        x.setPattern(0, 10);
        Check.due("undo of new ones", x.undo(), 1);
        Check.due("pattern of new ones", x.digit(0, 0), 9);
        x.setPattern(0, 11);
        x.undo();
        x.undo();
        Check.due("pattern behind all", x.digit(0, 0), 2);
    }

    /** A display in which all that a state holds is not as at first. */
    private static ScannedDigits used() {
        ScannedDigits x = new ScannedDigits();
        x.setDigits(5);
        x.set(0, 9);
        x.set(1, 300);
        x.set(2, 25);
        x.setWidth(1, 13);
        x.setGuard(2, 2);
        x.setBrightness(3, 11);
        x.setPattern(0, 77);
        x.setPattern(3, 200);
        x.setGroup(3, 2);
        x.setBlink(2, 2, 1);
        x.pass(137);
        x.test(3);
        x.pass(20);
        return x;
    }

    /** Changes all that a state holds by five acts or fewer that are undone one by one. */
    private static void changeAll(ScannedDigits x, int way) {
        switch (way) {
            case 0:
                x.setDigits(2);
                x.setWidth(0, 20);
                x.setGuard(1, 0);
                x.setBrightness(0, 2);
                x.setPattern(1, 85);
                break;
            case 1:
                x.setGroup(0, 3);
                x.setBlink(3, 7, 8);
                x.setBlink(2, 1, 9);
                x.set(0, 2);
                x.set(1, 1);
                break;
            case 2:
                x.set(2, 1);
                x.pass(500);
                x.replace(0);
                x.passFrames(7);
                x.test(9);
                break;
            default:
                x.setDigits(1);
                x.setDigits(8);
                x.pass(333);
                x.test(0);
                x.setDigits(5);
                break;
        }
    }

    private static void promise17RestoresAll() {
        for (int way = 0; way < 4; way++) {
            ScannedDigits x = used();
            String before = withoutHistory(x);
            changeAll(x, way);
            Check.due("changed in way " + way, before.equals(withoutHistory(x)) ? 1 : 0, 0);
            for (int left = 4; left >= 0; left--) {
                Check.due("undo", x.undo(), left);
            }
            Check.dueText("undone in way " + way, withoutHistory(x), before);
            // What follows is as if nothing had been done.
            x.pass(211);
            ScannedDigits same = used();
            same.pass(211);
            Check.dueText("what follows", withoutHistory(x), withoutHistory(same));
        }
    }

    private static String withoutHistory(ScannedDigits x) {
        String told = Display.tells(x);
        String end = " " + x.count(12) + " " + x.count(13) + " / ";
        return told.replace(end, " - - / ");
    }

    private static void promise17EachAct() {
        for (int act = 0; act < 14; act++) {
            ScannedDigits x = new ScannedDigits();
            x.keep(0);
            Check.due("keep is no act", x.count(12), 0);
            int answer = act(x, act);
            Check.due("act " + act + " answers no error", answer >= 0 ? 1 : 0, 1);
            Check.due("act " + act + " is recorded", x.count(12), 1);
            Check.due("undo of act " + act, x.undo(), 0);
            Check.dueText("as new behind act " + act, withoutHistory(x),
                withoutHistory(new ScannedDigits()));
        }
    }

    private static int act(ScannedDigits x, int act) {
        switch (act) {
            case 0: return x.setDigits(6);
            case 1: return x.setWidth(0, 11);
            case 2: return x.setGuard(0, 2);
            case 3: return x.setBrightness(0, 2);
            case 4: return x.setPattern(0, 2);
            case 5: return x.setGroup(0, 2);
            case 6: return x.setBlink(1, 2, 3);
            case 7: return x.set(0, 4);
            case 8: return x.replace(0);
            case 9: return x.test(4);
            case 10: return x.pass(4);
            case 11: return x.passFrames(4);
            case 12: return x.show();
            default: return x.restore(0);
        }
    }

    private static void promise17NotTheText() {
        ScannedDigits x = new ScannedDigits();
        x.type('1');
        x.setPattern(0, 3);
        x.type('2');
        x.keep(0);
        x.type('3');
        x.undo();
        Check.due("text behind undo", x.count(13), 3);
        Check.due("the snapshot is not undone", x.restore(0), 0);
        Check.due("its pattern", x.digit(0, 0), 3);
        Check.due("text behind restore", x.count(13), 3);
        Check.due("the history behind restore", x.count(12), 1);
    }

    private static void promise18Keep() {
        ScannedDigits x = new ScannedDigits();
        x.pass(7);
        Check.due("keep(0)", x.keep(0), 7);
        Check.due("no act", x.count(12), 1);
        x.pass(3);
        Check.due("keep(1)", x.keep(1), 10);
        x.pass(5);
        Check.due("restore(0)", x.restore(0), 7);
        Check.due("restore(1)", x.restore(1), 10);
        x.pass(90);
        Check.due("keep(0) in place of it", x.keep(0), 100);
        x.pass(1);
        Check.due("restore(0) again", x.restore(0), 100);
        Check.due("restore(1) again", x.restore(1), 10);
        Check.due("keep(2)", x.keep(2), -1);
        Check.due("keep(-1)", x.keep(-1), -1);
    }

    private static void promise19Restore() {
        ScannedDigits x = new ScannedDigits();
        Check.due("none", x.restore(1), -4);
        Check.due("unknown", x.restore(2), -1);
        Check.due("unknown, too", x.restore(-1), -1);
        Check.due("nothing recorded", x.count(12), 0);
        x.keep(1);
        Check.due("the other is empty", x.restore(0), -4);
        x.setPattern(0, 5);
        x.pass(50);
        Check.due("restore(1)", x.restore(1), 0);
        Check.due("an act", x.count(12), 3);
        Check.due("pattern", x.digit(0, 0), 0);
        x.setPattern(0, 9);
        Check.due("it stays", x.restore(1), 0);
        Check.due("as it was", x.digit(0, 0), 0);
        x.undo();
        Check.due("undo of a restore", x.digit(0, 0), 9);
        x.undo();
        x.undo();
        Check.due("undo of the first one", x.count(0) * 10 + x.digit(0, 0), 505);
    }

    private static void promise19RestoresAll() {
        for (int way = 0; way < 4; way++) {
            ScannedDigits x = used();
            String before = withoutHistory(x);
            x.keep(way & 1);
            changeAll(x, way);
            String changed = withoutHistory(x);
            Check.due("restore", x.restore(way & 1), 157);
            Check.dueText("restored in way " + way, withoutHistory(x), before);
            x.undo();
            Check.dueText("undone in way " + way, withoutHistory(x), changed);
            x.restore(way & 1);
            Check.dueText("restored again in way " + way, withoutHistory(x), before);
        }
    }
}
