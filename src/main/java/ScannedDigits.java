/**
 * A display of digits that are lit one after the other, in the slots of frames. What each method
 * promises stands in ../shared/DOC.md.
 */
public final class ScannedDigits {
    /** There is no such digit, segment, group, setting or snapshot. */
    public static final int UNKNOWN = -1;
    /** Another argument is out of range. */
    public static final int BAD_VALUE = -2;
    /** There is no more room. */
    public static final int FULL = -3;
    /** There is no such thing; not an error. */
    public static final int NONE = -4;

    private static final int MOST_DIGITS = 8;
    private static final int SEGMENTS = 8;
    private static final int POINT = 128;
    private static final int ALL_SEGMENTS = 255;
    private static final int LEAST_WIDTH = 4;
    private static final int MOST_WIDTH = 40;
    private static final int MOST_GUARD = 3;
    private static final int MOST_BRIGHTNESS = 15;
    private static final int GROUPS = 4;
    private static final int MOST_BLINK_FRAMES = 50;
    private static final int MOST_TEST_FRAMES = 50;
    private static final int MOST_TICKS = 500;
    private static final int MOST_FRAMES = 20;
    private static final int MOST_GLOW = 1000;
    private static final int MOST_CHARACTERS = 30;
    private static final int MOST_HISTORY = 5;
    private static final int SNAPSHOTS = 2;
    private static final int FAULT = -100;

    private static final int DECAY = 0;
    private static final int THRESHOLD = 1;
    private static final int LIFE = 2;
    private static final int[] FIRST_SETTINGS = {8, 200, 100000};
    private static final int[] LEAST_SETTINGS = {2, 1, 1};
    private static final int[] MOST_SETTINGS = {50, 1000, 1000000};

    private static final char[] CHARACTERS = {
        '0', '1', '2', '3', '4', '5', '6', '7', '8', '9', '-', ' ', 'E', 'r', 'o'
    };
    private static final int[] PATTERNS = {
        63, 6, 91, 79, 102, 109, 125, 7, 127, 111, 64, 0, 121, 80, 92
    };

    private final State now = new State();
    /** A row for litIn alone, so that no call makes a new one. */
    private final State future = new State();
    private final History history = new History();
    private final Snapshot[] snapshots = new Snapshot[SNAPSHOTS];
    private final Text text = new Text();

    public ScannedDigits() {
        for (int i = 0; i < snapshots.length; i++) {
            snapshots[i] = new Snapshot();
        }
    }

    // ---- settings

    public int setDigits(int digits) {
        if (!isWithin(digits, 1, MOST_DIGITS)) {
            return BAD_VALUE;
        }
        history.record(now);
        int previous = now.digitCount;
        now.changeDigitCount(digits);
        return previous;
    }

    public int setWidth(int digit, int width) {
        Digit found = now.find(digit);
        if (found == null) {
            return UNKNOWN;
        }
        if (!isWithin(width, LEAST_WIDTH, MOST_WIDTH)) {
            return BAD_VALUE;
        }
        history.record(now);
        now.changeWidth(found, width);
        return now.frameLength();
    }

    public int setGuard(int digit, int guard) {
        Digit found = now.find(digit);
        if (found == null) {
            return UNKNOWN;
        }
        if (!isWithin(guard, 0, MOST_GUARD)) {
            return BAD_VALUE;
        }
        history.record(now);
        found.guard = guard;
        return found.litPart();
    }

    public int setBrightness(int digit, int brightness) {
        Digit found = now.find(digit);
        if (found == null) {
            return UNKNOWN;
        }
        if (!isWithin(brightness, 0, MOST_BRIGHTNESS)) {
            return BAD_VALUE;
        }
        history.record(now);
        found.brightness = brightness;
        return found.litPart();
    }

    public int setPattern(int digit, int pattern) {
        Digit found = now.find(digit);
        if (found == null) {
            return UNKNOWN;
        }
        if (!isWithin(pattern, 0, ALL_SEGMENTS)) {
            return BAD_VALUE;
        }
        history.record(now);
        int previous = found.pattern;
        found.pattern = pattern;
        return previous;
    }

    public int setGroup(int digit, int group) {
        Digit found = now.find(digit);
        if (found == null || !isWithin(group, 0, GROUPS - 1)) {
            return UNKNOWN;
        }
        history.record(now);
        int previous = found.group;
        found.group = group;
        return previous;
    }

    public int setBlink(int group, int on, int off) {
        if (!isWithin(group, 1, GROUPS - 1)) {
            return UNKNOWN;
        }
        if (!isWithin(on, 1, MOST_BLINK_FRAMES) || !isWithin(off, 0, MOST_BLINK_FRAMES)) {
            return BAD_VALUE;
        }
        history.record(now);
        now.on[group] = on;
        now.off[group] = off;
        return now.digitsInGroup(group);
    }

    public int set(int what, int value) {
        if (!isWithin(what, DECAY, LIFE)) {
            return UNKNOWN;
        }
        if (!isWithin(value, LEAST_SETTINGS[what], MOST_SETTINGS[what])) {
            return BAD_VALUE;
        }
        history.record(now);
        int previous = now.settings[what];
        now.settings[what] = value;
        return previous;
    }

    public int replace(int digit) {
        Digit found = now.find(digit);
        if (found == null) {
            return UNKNOWN;
        }
        history.record(now);
        int broken = Integer.bitCount(found.broken);
        found.renewSegments();
        return broken;
    }

    public int test(int frames) {
        if (!isWithin(frames, 0, MOST_TEST_FRAMES)) {
            return BAD_VALUE;
        }
        history.record(now);
        int previous = now.testFrames;
        now.testFrames = frames;
        return previous;
    }

    // ---- time

    public int pass(int ticks) {
        if (!isWithin(ticks, 1, MOST_TICKS)) {
            return BAD_VALUE;
        }
        history.record(now);
        return now.runTicks(ticks);
    }

    public int passFrames(int frames) {
        if (!isWithin(frames, 1, MOST_FRAMES)) {
            return BAD_VALUE;
        }
        history.record(now);
        int length = now.frameLength();
        now.runTicks(frames * length - now.frameTicks);
        return now.time;
    }

    // ---- texts

    public int type(char character) {
        if (text.isFull()) {
            return FULL;
        }
        text.append(character);
        return text.length;
    }

    public int clearText() {
        int previous = text.length;
        text.length = 0;
        return previous;
    }

    public int show() {
        int fault = text.layOut(now.digitCount);
        if (fault >= 0) {
            return FAULT - fault;
        }
        history.record(now);
        now.takePatterns(text.patterns);
        return text.needed;
    }

    // ---- history

    public int undo() {
        if (history.size == 0) {
            return NONE;
        }
        history.takeBack(now);
        return history.size;
    }

    public int keep(int slot) {
        if (!isWithin(slot, 0, snapshots.length - 1)) {
            return UNKNOWN;
        }
        snapshots[slot].state.copyFrom(now);
        snapshots[slot].isTaken = true;
        return now.time;
    }

    public int restore(int slot) {
        if (!isWithin(slot, 0, snapshots.length - 1)) {
            return UNKNOWN;
        }
        if (!snapshots[slot].isTaken) {
            return NONE;
        }
        history.record(now);
        now.copyFrom(snapshots[slot].state);
        return now.time;
    }

    // ---- what is told

    public int digit(int digit, int what) {
        Digit found = now.find(digit);
        if (found == null) {
            return UNKNOWN;
        }
        switch (what) {
            case 0:
                return found.pattern;
            case 1:
                return found.width;
            case 2:
                return found.guard;
            case 3:
                return found.brightness;
            case 4:
                return found.group;
            case 5:
                return found.litPart();
            case 6:
                return now.slotStart(digit);
            case 7:
                return found.seen(now.settings[THRESHOLD]);
            case 8:
                return found.broken;
            case 9:
                return found.glowSum();
            case 10:
                return characterOf(found.pattern & ~POINT);
            case 11:
                return found.drivenTicks;
            default:
                return BAD_VALUE;
        }
    }

    public int segment(int digit, int segment, int what) {
        Digit found = now.find(digit);
        if (found == null || !isWithin(segment, 0, SEGMENTS - 1)) {
            return UNKNOWN;
        }
        switch (what) {
            case 0:
                return found.glow[segment];
            case 1:
                return found.use[segment];
            case 2:
                return found.broken >> segment & 1;
            case 3:
                return found.seen(now.settings[THRESHOLD]) >> segment & 1;
            default:
                return BAD_VALUE;
        }
    }

    public int litIn(int digit, int ticks) {
        if (now.find(digit) == null) {
            return UNKNOWN;
        }
        if (!isWithin(ticks, 0, MOST_TICKS)) {
            return BAD_VALUE;
        }
        future.copyFrom(now);
        future.runTicks(ticks);
        return future.slotNow() == digit ? future.litNext() : 0;
    }

    public int steadyGlow(int digit) {
        Digit found = now.find(digit);
        if (found == null) {
            return UNKNOWN;
        }
        int lit = found.litPart();
        if (lit == 0) {
            return 0;
        }
        return glowOfFrames(lit, now.frameLength() - lit, now.settings[DECAY]);
    }

    public float current(int what) {
        switch (what) {
            case 0:
                return now.current;
            case 1:
                return now.peak;
            case 2:
                return now.charge;
            default:
                return 0f;
        }
    }

    public int thousandths(int what) {
        if (!isWithin(what, 0, 2)) {
            return BAD_VALUE;
        }
        return (int) (current(what) * 1000f);
    }

    public float duty(int digit) {
        Digit found = now.find(digit);
        if (found == null || now.time == 0) {
            return 0f;
        }
        return (float) found.drivenTicks / (float) now.time;
    }

    public int count(int what) {
        switch (what) {
            case 0:
                return now.time;
            case 1:
                return now.digitCount;
            case 2:
                return now.frameLength();
            case 3:
                return now.frame;
            case 4:
                return now.frameTicks;
            case 5:
                return now.slotNow();
            case 6:
                return now.testFrames;
            case 7:
                return now.drivenTicks;
            case 8:
                return now.brokenSegments();
            case 9:
            case 10:
            case 11:
                return now.settings[what - 9];
            case 12:
                return history.size;
            case 13:
                return text.length;
            default:
                return BAD_VALUE;
        }
    }

    public int group(int group, int what) {
        if (!isWithin(group, 0, GROUPS - 1)) {
            return UNKNOWN;
        }
        switch (what) {
            case 0:
                return now.on[group];
            case 1:
                return now.off[group];
            case 2:
                return now.isGroupOn(group) ? 1 : 0;
            case 3:
                return now.digitsInGroup(group);
            default:
                return BAD_VALUE;
        }
    }

    // ---- helpers without a state

    private static boolean isWithin(int value, int least, int most) {
        return value >= least && value <= most;
    }

    /** The code of the character with this pattern, or NONE. */
    private static int characterOf(int pattern) {
        for (int i = 0; i < PATTERNS.length && i < CHARACTERS.length; i++) {
            if (PATTERNS[i] == pattern) {
                return CHARACTERS[i];
            }
        }
        return NONE;
    }

    /** The pattern of a character, or NONE. */
    private static int patternOf(char character) {
        for (int i = 0; i < CHARACTERS.length && i < PATTERNS.length; i++) {
            if (CHARACTERS[i] == character) {
                return PATTERNS[i];
            }
        }
        return NONE;
    }

    private static int glowLit(int glow) {
        int gain = Math.max(1, (MOST_GLOW - glow) / 4);
        return Math.min(MOST_GLOW, glow + gain);
    }

    private static int glowUnlit(int glow, int decay) {
        int part = decay > 0 ? glow / decay : 0;
        return Math.max(0, glow - part - 1);
    }

    /** The glow behind the lit ticks of a frame, once it is the same as in the frame before. */
    private static int glowOfFrames(int litTicks, int unlitTicks, int decay) {
        int before = -1;
        int glow = 0;
        // More glow at the begin of a frame never makes less at its end, so the glow only rises
        // from frame to frame and stands still after at most MOST_GLOW + 1 of them.
        for (int frame = 0; frame < MOST_GLOW + 2; frame++) {
            for (int i = 0; i < litTicks; i++) {
                glow = glowLit(glow);
            }
            if (glow == before) {
                return glow;
            }
            before = glow;
            for (int i = 0; i < unlitTicks; i++) {
                glow = glowUnlit(glow, decay);
            }
        }
        return before;
    }

    /** One digit: the settings of its slot, and its segments. */
    private static final class Digit {
        int width;
        int guard;
        int brightness;
        int pattern;
        int group;
        int drivenTicks;
        /** A bit set. */
        int broken;
        final int[] glow = new int[SEGMENTS];
        final int[] use = new int[SEGMENTS];

        Digit() {
            makeNew();
        }

        void makeNew() {
            width = 10;
            guard = 1;
            brightness = MOST_BRIGHTNESS;
            pattern = 0;
            group = 0;
            drivenTicks = 0;
            renewSegments();
        }

        void renewSegments() {
            broken = 0;
            for (int i = 0; i < SEGMENTS; i++) {
                glow[i] = 0;
                use[i] = 0;
            }
        }

        void copyFrom(Digit other) {
            width = other.width;
            guard = other.guard;
            brightness = other.brightness;
            pattern = other.pattern;
            group = other.group;
            drivenTicks = other.drivenTicks;
            broken = other.broken;
            System.arraycopy(other.glow, 0, glow, 0, SEGMENTS);
            System.arraycopy(other.use, 0, use, 0, SEGMENTS);
        }

        int litPart() {
            return litPartAt(brightness);
        }

        int litPartAt(int anyBrightness) {
            return (width - guard) * anyBrightness / MOST_BRIGHTNESS;
        }

        /** Lets a tick pass in which these segments are lit. */
        void runTick(int lit, int decay, int life) {
            for (int i = 0; i < SEGMENTS; i++) {
                if ((lit >> i & 1) == 0) {
                    glow[i] = glowUnlit(glow[i], decay);
                } else {
                    glow[i] = glowLit(glow[i]);
                    use[i]++;
                    if (use[i] >= life) {
                        broken |= 1 << i;
                    }
                }
            }
        }

        int seen(int threshold) {
            int bits = 0;
            for (int i = 0; i < SEGMENTS; i++) {
                if (glow[i] >= threshold) {
                    bits |= 1 << i;
                }
            }
            return bits;
        }

        int glowSum() {
            int sum = 0;
            for (int i = 0; i < SEGMENTS; i++) {
                sum += glow[i];
            }
            return sum;
        }
    }

    /** All that undo and restore bring back. */
    private static final class State {
        final Digit[] digits = new Digit[MOST_DIGITS];
        /** From 1 to MOST_DIGITS; the digits from this index on are spare rows. */
        int digitCount = 4;
        final int[] on = {0, 5, 5, 5};
        final int[] off = {0, 5, 5, 5};
        final int[] settings = FIRST_SETTINGS.clone();
        int time;
        int frame;
        /** The ticks of the present frame that have passed: always less than its length. */
        int frameTicks;
        int testFrames;
        int drivenTicks;
        float current;
        float peak;
        float charge;

        State() {
            for (int i = 0; i < digits.length; i++) {
                digits[i] = new Digit();
            }
        }

        void copyFrom(State other) {
            for (int i = 0; i < MOST_DIGITS; i++) {
                digits[i].copyFrom(other.digits[i]);
            }
            digitCount = other.digitCount;
            System.arraycopy(other.on, 0, on, 0, GROUPS);
            System.arraycopy(other.off, 0, off, 0, GROUPS);
            System.arraycopy(other.settings, 0, settings, 0, settings.length);
            time = other.time;
            frame = other.frame;
            frameTicks = other.frameTicks;
            testFrames = other.testFrames;
            drivenTicks = other.drivenTicks;
            current = other.current;
            peak = other.peak;
            charge = other.charge;
        }

        /** The digit of this number, or null if there is none. */
        Digit find(int digit) {
            return isWithin(digit, 0, digitCount - 1) ? digits[digit] : null;
        }

        void changeDigitCount(int wanted) {
            if (wanted == digitCount) {
                return;
            }
            for (int i = digitCount; i < wanted; i++) {
                digits[i].makeNew();
            }
            digitCount = wanted;
            beginFrame();
        }

        void changeWidth(Digit digit, int width) {
            if (width == digit.width) {
                return;
            }
            digit.width = width;
            beginFrame();
        }

        /** Ends the present frame, whether it is over or cut. */
        void beginFrame() {
            frame++;
            frameTicks = 0;
            if (testFrames > 0) {
                testFrames--;
            }
        }

        void takePatterns(int[] patterns) {
            for (int i = 0; i < digitCount && i < patterns.length; i++) {
                digits[i].pattern = patterns[i];
            }
        }

        int frameLength() {
            return slotStart(digitCount);
        }

        int slotStart(int slot) {
            int start = 0;
            for (int i = 0; i < slot; i++) {
                start += digits[i].width;
            }
            return start;
        }

        /** The slot in which the next tick lies. */
        int slotNow() {
            int slot = 0;
            int end = digits[0].width;
            while (slot < digitCount - 1 && frameTicks >= end) {
                slot++;
                end += digits[slot].width;
            }
            return slot;
        }

        boolean isGroupOn(int group) {
            int period = on[group] + off[group];
            // The group 0 has no period: it never blinks.
            return period <= 0 || frame % period < on[group];
        }

        int digitsInGroup(int group) {
            int found = 0;
            for (int i = 0; i < digitCount; i++) {
                if (digits[i].group == group) {
                    found++;
                }
            }
            return found;
        }

        int brokenSegments() {
            int found = 0;
            for (int i = 0; i < digitCount; i++) {
                found += Integer.bitCount(digits[i].broken);
            }
            return found;
        }

        /** Whether the digit of this slot, in which the next tick lies, is driven in it. */
        boolean isDriven(int slot) {
            Digit digit = digits[slot];
            boolean isTested = testFrames > 0;
            int litPart = digit.litPartAt(isTested ? MOST_BRIGHTNESS : digit.brightness);
            return frameTicks - slotStart(slot) < litPart
                && (isTested || isGroupOn(digit.group));
        }

        /** The segments that are lit in the next tick, all of the digit whose slot it is. */
        int litNext() {
            int slot = slotNow();
            if (!isDriven(slot)) {
                return 0;
            }
            int wanted = testFrames > 0 ? ALL_SEGMENTS : digits[slot].pattern;
            return wanted & ~digits[slot].broken;
        }

        /** Answers how many segments were lit, each tick counted. */
        int runTicks(int ticks) {
            int sum = 0;
            for (int i = 0; i < ticks; i++) {
                sum += runTick();
            }
            return sum;
        }

        int runTick() {
            int slot = slotNow();
            int lit = litNext();
            if (isDriven(slot)) {
                digits[slot].drivenTicks++;
                drivenTicks++;
            }
            for (int i = 0; i < digitCount; i++) {
                digits[i].runTick(i == slot ? lit : 0, settings[DECAY], settings[LIFE]);
            }
            int litCount = Integer.bitCount(lit);
            runCurrent(litCount);
            time++;
            frameTicks++;
            if (frameTicks >= frameLength()) {
                beginFrame();
            }
            return litCount;
        }

        void runCurrent(int litCount) {
            current = current + (litCount * 2.5f - current) * 0.125f;
            peak = current > peak ? current : peak;
            charge = charge + current * 0.001f;
        }
    }

    private static final class Snapshot {
        final State state = new State();
        boolean isTaken;
    }

    /** The latest states, in a ring of rows that are used again. */
    private static final class History {
        final State[] rows = new State[MOST_HISTORY];
        /** The row for the next state: the oldest one when the ring is full. */
        int next;
        int size;

        History() {
            for (int i = 0; i < rows.length; i++) {
                rows[i] = new State();
            }
        }

        void record(State state) {
            rows[next].copyFrom(state);
            next = next < MOST_HISTORY - 1 ? next + 1 : 0;
            size = Math.min(MOST_HISTORY, size + 1);
        }

        void takeBack(State state) {
            next = next > 0 ? next - 1 : MOST_HISTORY - 1;
            state.copyFrom(rows[next]);
            size--;
        }
    }

    /** The text that is typed, and the patterns that it lays out. */
    private static final class Text {
        final char[] characters = new char[MOST_CHARACTERS];
        int length;
        final int[] patterns = new int[MOST_DIGITS];
        int needed;

        boolean isFull() {
            return length >= MOST_CHARACTERS;
        }

        void append(char character) {
            characters[length] = character;
            length++;
        }

        /** Fills patterns and needed; answers the fault of the text, or NONE. */
        int layOut(int digitCount) {
            for (int i = 0; i < patterns.length; i++) {
                patterns[i] = 0;
            }
            needed = 0;
            boolean takesPoint = false;
            for (int i = 0; i < length; i++) {
                boolean isPoint = characters[i] == '.';
                if (isPoint && takesPoint) {
                    patterns[needed - 1] |= POINT;
                } else {
                    int pattern = isPoint ? POINT : patternOf(characters[i]);
                    if (pattern == NONE || needed >= digitCount) {
                        return i;
                    }
                    patterns[needed] = pattern;
                    needed++;
                }
                takesPoint = !isPoint;
            }
            return NONE;
        }
    }
}
