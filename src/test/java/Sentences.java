/** Runs the tests of single sentences of the document, each with a verdict of its own. */
final class Sentences {
    private static int passed = 0;
    private static int failed = 0;

    private Sentences() {
    }

    /** The sentence is quoted as the document has it, or the part of it that names the edge. */
    static void holds(String sentence, Runnable test) {
        int before = Check.wrongAnswers();
        boolean hasThrown = false;
        try {
            test.run();
        } catch (RuntimeException thrown) {
            hasThrown = true;
            System.out.println("thrown: " + thrown);
        }
        if (Check.wrongAnswers() == before && !hasThrown) {
            passed++;
        } else {
            failed++;
            System.out.println("BROKEN: " + sentence);
        }
    }

    static void end() {
        System.out.println(passed + " passed, " + failed + " failed");
        if (failed != 0) {
            System.exit(1);
        }
    }
}
