/** Counts and prints the answers that are not the ones that are due. */
final class Check {
    private static int wrong = 0;

    private Check() {
    }

    static void due(String call, long got, long want) {
        if (got != want) {
            tell(call, Long.toString(got), Long.toString(want));
        }
    }

    /** Floats are due to the last bit. */
    static void dueFloat(String call, float got, float want) {
        if (Float.floatToIntBits(got) != Float.floatToIntBits(want)) {
            tell(call, Float.toString(got), Float.toString(want));
        }
    }

    static void dueText(String call, String got, String want) {
        if (!got.equals(want)) {
            tell(call, got, want);
        }
    }

    private static void tell(String call, String got, String want) {
        wrong++;
        if (wrong <= 100) {
            System.out.println(call + " answered " + got + ", due is " + want);
        }
    }

    static int wrongAnswers() {
        return wrong;
    }

    static void end() {
        if (wrong != 0) {
            System.out.println(wrong + " answers are not as due");
            System.exit(1);
        }
        System.out.println("all answers are as due");
    }
}
