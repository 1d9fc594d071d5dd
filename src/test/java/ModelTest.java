/** Long mixed runs of calls, each answered by the program and by the Model. */
public final class ModelTest {
    private static final String TYPED = "0123456789- Ero....x";
    private static final int RUNS = 400;
    /** An object is used for at most 512 calls. */
    private static final int CALLS = 512;
    /** The most calls of the program that one step makes, and those that tell all behind a run. */
    private static final int CALLS_OF_A_STEP = 10;
    private static final int CALLS_OF_THE_END = 100;

    private final ScannedDigits program = new ScannedDigits();
    private final Model model = new Model();
    private long seed;
    private int calls;

    private ModelTest(long seed) {
        this.seed = seed;
    }

    public static void main(String[] args) {
        for (int run = 0; run < RUNS && Check.wrongAnswers() == 0; run++) {
            ModelTest test = new ModelTest(run);
            while (test.calls <= CALLS - CALLS_OF_THE_END - CALLS_OF_A_STEP) {
                test.step("run " + run + ", about call " + test.calls + ": ");
            }
            for (int what = -1; what <= 14; what++) {
                test.tell("run " + run + ", its end: ", what);
            }
        }
        Check.end();
    }

    /** A number from 0 to bound - 1; the same in each run of the test. */
    private int random(int bound) {
        seed = seed * 6364136223846793005L + 1442695040888963407L;
        return (int) ((seed >>> 33) % bound);
    }

    /** Mostly within the range, at times just outside of it, seldom far away. */
    private int near(int least, int most) {
        int kind = random(60);
        if (kind == 0) {
            return least - 1;
        }
        if (kind == 1) {
            return most + 1;
        }
        if (kind == 2) {
            return random(2) == 0 ? Integer.MIN_VALUE + random(9) : Integer.MAX_VALUE - random(9);
        }
        return kind < 8 ? most : kind < 14 ? least : least + random(most - least + 1);
    }

    private void step(String run) {
        int kind = random(100);
        if (kind < 35) {
            set(run, random(10));
            calls += 3;
        } else if (kind < 50) {
            pass(run);
            calls++;
        } else if (kind < 65) {
            texts(run);
            calls++;
        } else if (kind < 75) {
            history(run);
            calls++;
        } else {
            tellOfTheFuture(run);
            tell(run, random(16) - 1);
            calls += 10;
        }
    }

    private void set(String run, int kind) {
        int digit = near(0, program.count(1) - 1);
        if (kind == 0) {
            int digits = near(1, 8);
            Check.due(run + "setDigits", program.setDigits(digits), model.setDigits(digits));
        } else if (kind == 1) {
            int width = random(3) == 0 ? program.digit(0, 1) : near(4, 40);
            Check.due(run + "setWidth", program.setWidth(digit, width),
                model.setOfDigit(1, digit, width));
        } else if (kind == 2) {
            int guard = near(0, 3);
            Check.due(run + "setGuard", program.setGuard(digit, guard),
                model.setOfDigit(2, digit, guard));
        } else if (kind == 3) {
            int brightness = near(0, 15);
            Check.due(run + "setBrightness", program.setBrightness(digit, brightness),
                model.setOfDigit(3, digit, brightness));
        } else if (kind == 4) {
            int pattern = near(0, 255);
            Check.due(run + "setPattern", program.setPattern(digit, pattern),
                model.setOfDigit(0, digit, pattern));
        } else if (kind == 5) {
            int group = near(0, 3);
            Check.due(run + "setGroup", program.setGroup(digit, group),
                model.setGroup(digit, group));
        } else if (kind == 6) {
            int group = near(1, 3);
            int on = near(1, random(2) == 0 ? 3 : 50);
            int off = near(0, random(2) == 0 ? 3 : 50);
            Check.due(run + "setBlink", program.setBlink(group, on, off),
                model.setBlink(group, on, off));
        } else if (kind == 7) {
            int what = near(0, 2);
            int value = what == 0 ? near(2, 50) : what == 1 ? near(1, 1000)
                : random(4) == 0 ? near(1, 1000000) : near(1, 300);
            Check.due(run + "set", program.set(what, value), model.set(what, value));
        } else if (kind == 8) {
            Check.due(run + "replace", program.replace(digit), model.replace(digit));
        } else {
            int frames = near(0, random(2) == 0 ? 3 : 50);
            Check.due(run + "test", program.test(frames), model.test(frames));
        }
    }

    private void pass(String run) {
        if (random(8) == 0) {
            int frames = near(1, random(4) == 0 ? 20 : 3);
            Check.due(run + "passFrames", program.passFrames(frames), model.passFrames(frames));
        } else {
            int ticks = near(1, random(8) == 0 ? 500 : 60);
            Check.due(run + "pass", program.pass(ticks), model.pass(ticks));
        }
    }

    private void texts(String run) {
        int kind = random(12);
        if (kind < 8) {
            char typed = random(40) == 0 ? (char) random(65536)
                : TYPED.charAt(random(random(3) == 0 ? 20 : 19));
            Check.due(run + "type", program.type(typed), model.type(typed));
        } else if (kind == 8 && random(2) == 0) {
            Check.due(run + "clearText", program.clearText(), model.clearText());
        } else {
            Check.due(run + "show", program.show(), model.show());
        }
    }

    private void history(String run) {
        int kind = random(6);
        int slot = near(0, 1);
        if (kind < 3) {
            Check.due(run + "undo", program.undo(), model.undo());
        } else if (kind < 5) {
            Check.due(run + "keep", program.keep(slot), model.keep(slot));
        } else {
            Check.due(run + "restore", program.restore(slot), model.restore(slot));
        }
    }

    private void tellOfTheFuture(String run) {
        int digit = near(0, random(2) == 0 ? 3 : 7);
        int ticks = near(0, random(4) == 0 ? 500 : 80);
        Check.due(run + "litIn", program.litIn(digit, ticks), model.litIn(digit, ticks));
        Check.due(run + "steadyGlow", program.steadyGlow(digit), model.steadyGlow(digit));
        Check.dueFloat(run + "duty", program.duty(digit), model.duty(digit));
    }

    private void tell(String run, int what) {
        int digit = near(0, random(2) == 0 ? 3 : 7);
        int segment = near(0, 7);
        Check.due(run + "count " + what, program.count(what), model.count(what));
        Check.due(run + "digit " + what, program.digit(digit, what), model.digit(digit, what));
        Check.due(run + "segment " + what, program.segment(digit, segment, what),
            model.segment(digit, segment, what));
        Check.due(run + "group " + what, program.group(segment & 3, what),
            model.group(segment & 3, what));
        Check.dueFloat(run + "current " + what, program.current(what), model.current(what));
        Check.due(run + "thousandths " + what, program.thousandths(what), model.thousandths(what));
    }
}
