/** The edges of texts: those of "Terms", and of promises 14 to 16. */
public final class TextsEdgesTest {
    private static final String THIRTY = "..............................";

    public static void main(String[] args) {
        lengths();
        characters();
        points();
        faults();
        Sentences.end();
    }

    private static void lengths() {
        Sentences.holds("There is a text of at most 30 characters", TextsEdgesTest::atMost30);
        Sentences.holds("empty at first", TextsEdgesTest::emptyAtFirst);
        Sentences.holds("14: character: any character", TextsEdgesTest::anyCharacterIsTaken);
        Sentences.holds("14: Returns the length of the text then",
            TextsEdgesTest::typeReturnsTheLengthThen);
        Sentences.holds("14: FULL if it has 30 characters", TextsEdgesTest::fullAt30);
        Sentences.holds("15: Empties the text.", TextsEdgesTest::clearTextMakesRoom);
        Sentences.holds("15: Returns the length that it had.",
            TextsEdgesTest::clearTextReturnsTheLength);
    }

    private static void characters() {
        Sentences.holds("The pattern of a character is",
            TextsEdgesTest::eachCharacterHasItsPattern);
        Sentences.holds("It is shown from the digit 0 on", TextsEdgesTest::shownFromDigitZero);
        Sentences.holds("each character of the table above is for the next digit",
            TextsEdgesTest::spacesTakeADigitToo);
        Sentences.holds("Digits for which there is nothing get the pattern 0.",
            TextsEdgesTest::otherDigitsGetNothing);
        Sentences.holds("16: Shows the text, which stays.", TextsEdgesTest::theTextStays);
        Sentences.holds("16: Returns the number of digits that are needed for it",
            TextsEdgesTest::showReturnsNoneToEight);
    }

    private static void points() {
        Sentences.holds("a \".\" behind such a character lights the point of the same digit, too",
            TextsEdgesTest::pointsBehindACharacter);
        Sentences.holds("a \".\" behind nothing [..] is for the next digit, and lights only its"
            + " point", TextsEdgesTest::pointsBehindNothing);
        Sentences.holds("a \".\" [..] behind another \".\", is for the next digit, and lights only"
            + " its point", TextsEdgesTest::pointsBehindAnother);
    }

    private static void faults() {
        Sentences.holds("The fault of the text is the index, from 0",
            TextsEdgesTest::faultsAreCountedFromZero);
        Sentences.holds("the first character that is not allowed (not in the table and no \".\")",
            TextsEdgesTest::charactersThatAreNotAllowed);
        Sentences.holds("or with which more digits would be needed than there are",
            TextsEdgesTest::moreDigitsThanThereAre);
        Sentences.holds("the first character [of two faults]", TextsEdgesTest::theFirstOfTwoFaults);
        Sentences.holds("16: -100 minus the fault of the text", TextsEdgesTest::faultsUpTo116);
        Sentences.holds("16: if it has one (which is an error)", TextsEdgesTest::faultsAreErrors);
    }

    private static void shows(ScannedDigits x, String text, int answer, String patterns) {
        Check.due("show " + text, Display.show(x, text), answer);
        Check.dueText("patterns of " + text, Display.patterns(x), patterns);
    }

    // ---- lengths

    private static void atMost30() {
        ScannedDigits x = new ScannedDigits();
        Display.typeAll(x, THIRTY);
        Check.due("length", x.count(13), 30);
        x.type('.');
        Check.due("no more", x.count(13), 30);
    }

    private static void emptyAtFirst() {
        ScannedDigits x = new ScannedDigits();
        Check.due("length", x.count(13), 0);
        Check.due("cleared", x.clearText(), 0);
        Check.due("shown", x.show(), 0);
        Check.due("the first character", x.type('1'), 1);
    }

    private static void anyCharacterIsTaken() {
        ScannedDigits x = new ScannedDigits();
        char[] any = {0, '.', '1', 'x', 127, 128, 255, 256, 32767, 32768, 65534, 65535};
        for (int i = 0; i < any.length; i++) {
            Check.due("type " + (int) any[i], x.type(any[i]), i + 1);
        }
    }

    private static void typeReturnsTheLengthThen() {
        ScannedDigits x = new ScannedDigits();
        for (int length = 1; length <= 30; length++) {
            Check.due("type", x.type('8'), length);
            Check.due("told", x.count(13), length);
        }
        x.clearText();
        Check.due("from 1 again", x.type('8'), 1);
    }

    private static void fullAt30() {
        ScannedDigits x = new ScannedDigits();
        Display.typeAll(x, THIRTY.substring(1));
        Check.due("the 30th", x.type('.'), 30);
        Check.due("the 31st", x.type('.'), -3);
        Check.due("the 31st, not allowed", x.type('x'), -3);
        Check.due("the 31st of code 0", x.type((char) 0), -3);
    }

    private static void clearTextMakesRoom() {
        ScannedDigits x = new ScannedDigits();
        Display.typeAll(x, THIRTY);
        x.clearText();
        Check.due("length", x.count(13), 0);
        Check.due("nothing to show", x.show(), 0);
        Display.typeAll(x, THIRTY);
        Check.due("full again", x.type('.'), -3);
        // A point at the begin of the new text is behind nothing.
        shows(x, "1", 1, "6 0 0 0");
        shows(x, ".", 1, "128 0 0 0");
    }

    private static void clearTextReturnsTheLength() {
        ScannedDigits x = new ScannedDigits();
        Check.due("none", x.clearText(), 0);
        x.type('1');
        Check.due("one", x.clearText(), 1);
        Check.due("none again", x.clearText(), 0);
        Display.typeAll(x, THIRTY);
        Check.due("all", x.clearText(), 30);
    }

    // ---- characters

    private static void eachCharacterHasItsPattern() {
        ScannedDigits x = new ScannedDigits();
        for (int i = 0; i < Display.TABLE.length(); i++) {
            Check.due("show", Display.show(x, Display.TABLE.substring(i, i + 1)), 1);
            Check.due("pattern of " + Display.TABLE.charAt(i), x.digit(0, 0), Display.BITS[i]);
        }
    }

    private static void shownFromDigitZero() {
        ScannedDigits x = new ScannedDigits();
        shows(x, "1", 1, "6 0 0 0");
        shows(x, "12", 2, "6 91 0 0");
        shows(x, "1234", 4, "6 91 79 102");
    }

    private static void spacesTakeADigitToo() {
        ScannedDigits x = new ScannedDigits();
        shows(x, " ", 1, "0 0 0 0");
        shows(x, "  -1", 4, "0 0 64 6");
        shows(x, "E r ", 4, "121 0 80 0");
        Check.due("a fifth one", Display.show(x, "     "), -104);
    }

    private static void otherDigitsGetNothing() {
        ScannedDigits x = new ScannedDigits();
        x.setDigits(8);
        for (int digit = 0; digit < 8; digit++) {
            x.setPattern(digit, 255);
        }
        shows(x, "8.8.8.8.8.8.8.", 7, "255 255 255 255 255 255 255 0");
        shows(x, "1", 1, "6 0 0 0 0 0 0 0");
        x.setPattern(0, 255);
        x.setPattern(7, 255);
        shows(x, "", 0, "0 0 0 0 0 0 0 0");
    }

    private static void theTextStays() {
        ScannedDigits x = new ScannedDigits();
        shows(x, "12", 2, "6 91 0 0");
        Check.due("length", x.count(13), 2);
        x.setPattern(0, 255);
        Check.due("again", x.show(), 2);
        Check.dueText("again", Display.patterns(x), "6 91 0 0");
        x.type('.');
        Check.due("with one more", x.show(), 2);
        Check.dueText("with one more", Display.patterns(x), "6 219 0 0");
        Display.typeAll(x, "12345");
        Check.due("a fault", x.show(), -104);
        Check.due("stays, too", x.count(13), 5);
    }

    private static void showReturnsNoneToEight() {
        ScannedDigits x = new ScannedDigits();
        x.setDigits(8);
        for (int needed = 0; needed <= 8; needed++) {
            Check.due("show", Display.show(x, "12345678".substring(0, needed)), needed);
        }
        Check.due("points in it", Display.show(x, "1.2.3.4.5.6.7.8."), 8);
        Check.due("points alone", Display.show(x, "........"), 8);
        x.setDigits(1);
        Check.due("one", Display.show(x, "1."), 1);
        Check.due("none", Display.show(x, ""), 0);
    }

    // ---- points

    private static void pointsBehindACharacter() {
        ScannedDigits x = new ScannedDigits();
        shows(x, "8.", 1, "255 0 0 0");
        shows(x, " .", 1, "128 0 0 0");
        shows(x, "1.2.3.4.", 4, "134 219 207 230");
        shows(x, "123.4", 4, "6 91 207 102");
        shows(x, "1234.", 4, "6 91 79 230");
    }

    private static void pointsBehindNothing() {
        ScannedDigits x = new ScannedDigits();
        shows(x, ".", 1, "128 0 0 0");
        shows(x, ".8", 2, "128 127 0 0");
        shows(x, ".8.", 2, "128 255 0 0");
        shows(x, ".123", 4, "128 6 91 79");
        Check.due("it takes a digit", Display.show(x, ".1234"), -104);
    }

    private static void pointsBehindAnother() {
        ScannedDigits x = new ScannedDigits();
        shows(x, "..", 2, "128 128 0 0");
        shows(x, "8..", 2, "255 128 0 0");
        shows(x, "8...", 3, "255 128 128 0");
        shows(x, "8..8.", 3, "255 128 255 0");
        shows(x, "....", 4, "128 128 128 128");
        shows(x, "1.2.3..", 4, "134 219 207 128");
    }

    // ---- faults

    private static void faultsAreCountedFromZero() {
        ScannedDigits x = new ScannedDigits();
        Check.due("the first", Display.show(x, "x"), -100);
        Check.due("the second", Display.show(x, "1x"), -101);
        Check.due("the third, points are counted", Display.show(x, "1.x"), -102);
        Check.due("the last", Display.show(x, "1.2.3.4.x"), -108);
    }

    private static void charactersThatAreNotAllowed() {
        ScannedDigits x = new ScannedDigits();
        String allowed = Display.TABLE + ".";
        for (char character = 0; character < 300; character++) {
            if (character % 40 == 0) {
                x = new ScannedDigits();
            }
            int due = allowed.indexOf(character) >= 0 ? 1 : -100;
            Check.due("code " + (int) character, Display.show(x, "" + character), due);
        }
        // Those that would be allowed if a part of their code was lost.
        for (char character : new char[] {'0' + 256, '8' + 32768, '.' + 256, '.' + 65280, 65535}) {
            Check.due("code " + (int) character, Display.show(x, "" + character), -100);
        }
    }

    private static void moreDigitsThanThereAre() {
        for (int digits : new int[] {1, 4, 8}) {
            ScannedDigits x = new ScannedDigits();
            x.setDigits(digits);
            Check.due("as many", Display.show(x, "888888888".substring(0, digits)), digits);
            Check.due("one more", Display.show(x, "888888888".substring(0, digits + 1)),
                -100 - digits);
            Check.due("as many points", Display.show(x, THIRTY.substring(0, digits)), digits);
            Check.due("one point more", Display.show(x, THIRTY.substring(0, digits + 1)),
                -100 - digits);
            Check.due("30 points", Display.show(x, THIRTY), -100 - digits);
            Check.due("a point that needs none",
                Display.show(x, "88888888".substring(0, digits) + "."), digits);
            Check.due("a point behind it, that needs one",
                Display.show(x, "88888888".substring(0, digits) + ".."), -101 - digits);
        }
    }

    private static void theFirstOfTwoFaults() {
        ScannedDigits x = new ScannedDigits();
        Check.due("not allowed is first", Display.show(x, "12x4567"), -102);
        Check.due("too many is first", Display.show(x, "123456x"), -104);
        Check.due("both in one character", Display.show(x, "1234x"), -104);
        Check.due("two that are not allowed", Display.show(x, "1xx"), -101);
        Check.due("not allowed, behind enough", Display.show(x, "1234.x"), -105);
    }

    private static void faultsUpTo116() {
        ScannedDigits x = new ScannedDigits();
        x.setDigits(8);
        Check.due("the first", Display.show(x, "x1.2.3.4.5.6.7.8."), -100);
        Check.due("the last", Display.show(x, "1.2.3.4.5.6.7.8.9"), -116);
        Check.due("the last, not allowed", Display.show(x, "1.2.3.4.5.6.7.8.x"), -116);
        Check.due("the last, a point", Display.show(x, "1.2.3.4.5.6.7.8.."), -116);
        Check.due("the last of 30", Display.show(x, "1.2.3.4.5.6.7.8.9.0.1.2.3.4.5."), -116);
    }

    private static void faultsAreErrors() {
        ScannedDigits x = withAFault();
        Check.due("a fault", x.show(), -104);
        Check.dueText("nothing changes", Display.tells(x), Display.tells(withAFault()));
        Check.dueText("no digit", Display.patterns(x), "127 127 127 127");
    }

    private static ScannedDigits withAFault() {
        ScannedDigits x = new ScannedDigits();
        Display.show(x, "8888");
        x.pass(3);
        x.test(1);
        Display.typeAll(x, "12345");
        return x;
    }
}
