/** Promises 14 to 16: texts. */
public final class TextsTest {
    public static void main(String[] args) {
        promise14Type();
        promise15ClearText();
        promise16ShowEachCharacter();
        promise16ShowPoints();
        promise16ShowFaults();
        promise16ShowIsAnAct();
        Check.end();
    }

    private static void promise14Type() {
        ScannedDigits x = new ScannedDigits();
        for (int i = 1; i <= 30; i++) {
            Check.due("type " + i, x.type((char) (i * 2000)), i);
        }
        Check.due("31st", x.type('1'), -3);
        Check.due("length", x.count(13), 30);
        Check.due("no act", x.count(12), 0);
        Check.due("emptied", x.clearText(), 30);
        Check.due("again", x.type((char) 0), 1);
        Check.due("any character", x.type((char) 65535), 2);
    }

    private static void promise15ClearText() {
        ScannedDigits x = new ScannedDigits();
        Check.due("empty", x.clearText(), 0);
        Display.show(x, "12");
        Check.due("of 2", x.clearText(), 2);
        Check.due("length", x.count(13), 0);
        Check.due("empty again", x.clearText(), 0);
        Check.due("no act", x.count(12), 1);
        Check.dueText("the patterns stay", Display.patterns(x), "6 91 0 0");
        Check.due("nothing to show", x.show(), 0);
        Check.dueText("all dark", Display.patterns(x), "0 0 0 0");
    }

    private static void promise16ShowEachCharacter() {
        ScannedDigits x = new ScannedDigits();
        for (int i = 0; i < Display.BITS.length; i++) {
            String one = Display.TABLE.substring(i, i + 1);
            Check.due("show " + one, Display.show(x, one + one + '.'), 2);
            Check.dueText("patterns of " + one, Display.patterns(x),
                Display.BITS[i] + " " + (Display.BITS[i] + 128) + " 0 0");
            Check.due("character", x.digit(0, 10), one.charAt(0));
            Check.due("character without its point", x.digit(1, 10), one.charAt(0));
        }
    }

    private static void promise16ShowPoints() {
        ScannedDigits x = new ScannedDigits();
        Check.due("behind nothing", Display.show(x, "."), 1);
        Check.dueText("behind nothing", Display.patterns(x), "128 0 0 0");
        Check.due("behind another", Display.show(x, ".."), 2);
        Check.dueText("behind another", Display.patterns(x), "128 128 0 0");
        Check.due("behind one that is taken", Display.show(x, "1..2."), 3);
        Check.dueText("behind one that is taken", Display.patterns(x), "134 128 219 0");
        Check.due("behind a space", Display.show(x, " .1"), 2);
        Check.dueText("behind a space", Display.patterns(x), "128 6 0 0");
        Check.due("all digits", Display.show(x, "1.2.3.4."), 4);
        Check.dueText("all digits", Display.patterns(x), "134 219 207 230");
        Check.due("three behind one", Display.show(x, "8..."), 3);
        Check.dueText("three behind one", Display.patterns(x), "255 128 128 0");
    }

    private static void promise16ShowFaults() {
        ScannedDigits x = new ScannedDigits();
        Display.show(x, "8888");
        Check.due("first", Display.show(x, "x"), -100);
        Check.due("not allowed", Display.show(x, "12a.5"), -102);
        Check.due("a capital", Display.show(x, "1O"), -101);
        Check.due("far away", Display.show(x, "1" + (char) (256 + '2')), -101);
        Check.due("too many", Display.show(x, "12345"), -104);
        Check.due("too many points", Display.show(x, "1234.."), -105);
        Check.due("only points", Display.show(x, "....."), -104);
        Check.due("the first of two", Display.show(x, "1.2.3.4.5x"), -108);
        Check.due("the first of two, again", Display.show(x, "1x2345"), -101);
        Check.due("of 30", Display.show(x, "..............................") , -104);
        Check.dueText("nothing changes", Display.patterns(x), "127 127 127 127");
        Check.due("no act", x.count(12), 1);
        Check.due("the text stays", x.count(13), 30);
        x.setDigits(8);
        Check.due("eight digits", Display.show(x, "1.2.3.4.5.6.7.8."), 8);
        Check.due("nine digits", Display.show(x, "1.2.3.4.5.6.7.8.9"), -116);
        Check.due("a fault late in it", Display.show(x, "1.2.3.4.5.6.7.8.e............."), -116);
        x.setDigits(1);
        Check.due("one digit", Display.show(x, "9."), 1);
        Check.due("two digits", Display.show(x, "99"), -101);
    }

    private static void promise16ShowIsAnAct() {
        ScannedDigits x = new ScannedDigits();
        Display.typeAll(x, "12");
        Check.due("show", x.show(), 2);
        Check.due("an act", x.count(12), 1);
        Check.due("the text stays", x.count(13), 2);
        x.type('3');
        Check.due("more of it", x.show(), 3);
        Check.due("undo", x.undo(), 1);
        Check.dueText("undone", Display.patterns(x), "6 91 0 0");
        Check.due("not the text", x.count(13), 3);
        Check.due("shown again", x.show(), 3);
        Check.due("seen at once", x.litIn(0, 0), 6);
    }
}
