import java.util.ArrayDeque;
import java.util.ArrayList;
import java.util.Arrays;
import java.util.List;

/**
 * The document once more, as plainly as the Java library allows and by other means than the
 * program: lists, new states by copying, and the lit ticks of a frame written out.
 */
final class Model {
    private static final String TABLE = Display.TABLE;
    private static final int[] BITS = Display.BITS;

    private static final class Cell {
        int width = 10;
        int guard = 1;
        int brightness = 15;
        int pattern;
        int group;
        int driven;
        int[] glow = new int[8];
        int[] use = new int[8];
        boolean[] broken = new boolean[8];

        Cell copy() {
            Cell made = new Cell();
            made.width = width;
            made.guard = guard;
            made.brightness = brightness;
            made.pattern = pattern;
            made.group = group;
            made.driven = driven;
            made.glow = glow.clone();
            made.use = use.clone();
            made.broken = broken.clone();
            return made;
        }

        int brokenCount() {
            int sum = 0;
            for (boolean one : broken) {
                sum += one ? 1 : 0;
            }
            return sum;
        }
    }

    private static final class World {
        List<Cell> cells = new ArrayList<>();
        int[][] blink = {{0, 0}, {5, 5}, {5, 5}, {5, 5}};
        int[] settings = {8, 200, 100000};
        int time;
        int frame;
        int inFrame;
        int testLeft;
        int driven;
        float current;
        float peak;
        float charge;

        World copy() {
            World made = new World();
            for (Cell cell : cells) {
                made.cells.add(cell.copy());
            }
            for (int i = 0; i < 4; i++) {
                made.blink[i] = blink[i].clone();
            }
            made.settings = settings.clone();
            made.time = time;
            made.frame = frame;
            made.inFrame = inFrame;
            made.testLeft = testLeft;
            made.driven = driven;
            made.current = current;
            made.peak = peak;
            made.charge = charge;
            return made;
        }

        int length() {
            return cells.stream().mapToInt(cell -> cell.width).sum();
        }

        /** The owner of each tick of a frame. */
        List<Integer> owners() {
            List<Integer> owners = new ArrayList<>();
            for (int i = 0; i < cells.size(); i++) {
                for (int tick = 0; tick < cells.get(i).width; tick++) {
                    owners.add(i);
                }
            }
            return owners;
        }

        boolean groupOn(int group) {
            return group == 0
                || frame % (blink[group][0] + blink[group][1]) < blink[group][0];
        }

        boolean drivenNow() {
            List<Integer> owners = owners();
            int owner = owners.get(inFrame);
            Cell cell = cells.get(owner);
            int brightness = testLeft > 0 ? 15 : cell.brightness;
            boolean wanted = testLeft > 0 || groupOn(cell.group);
            int inSlot = inFrame - owners.indexOf(owner);
            return wanted && inSlot < (cell.width - cell.guard) * brightness / 15;
        }

        boolean[] litNow() {
            Cell cell = cells.get(owners().get(inFrame));
            boolean[] lit = new boolean[8];
            for (int i = 0; i < 8; i++) {
                boolean wanted = testLeft > 0 || (cell.pattern & 1 << i) != 0;
                lit[i] = drivenNow() && wanted && !cell.broken[i];
            }
            return lit;
        }

        int tick() {
            Cell owner = cells.get(owners().get(inFrame));
            boolean[] lit = litNow();
            if (drivenNow()) {
                owner.driven++;
                driven++;
            }
            int n = 0;
            for (Cell cell : cells) {
                for (int i = 0; i < 8; i++) {
                    int glow = cell.glow[i];
                    if (cell == owner && lit[i]) {
                        n++;
                        glow = Math.max(glow + 1, glow + (1000 - glow) / 4);
                        cell.glow[i] = Math.min(glow, 1000);
                        cell.use[i]++;
                        cell.broken[i] = cell.use[i] >= settings[2];
                    } else {
                        cell.glow[i] = Math.max(0, glow - glow / settings[0] - 1);
                    }
                }
            }
            current = current + (n * 2.5f - current) * 0.125f;
            peak = Math.max(peak, current);
            charge = charge + current * 0.001f;
            time++;
            inFrame++;
            if (inFrame == length()) {
                newFrame();
            }
            return n;
        }

        void newFrame() {
            inFrame = 0;
            frame++;
            testLeft = Math.max(0, testLeft - 1);
        }
    }

    private World now = new World();
    private final ArrayDeque<World> history = new ArrayDeque<>();
    private final World[] kept = new World[2];
    private String text = "";

    Model() {
        for (int i = 0; i < 4; i++) {
            now.cells.add(new Cell());
        }
    }

    private Cell cell(int digit) {
        return digit >= 0 && digit < now.cells.size() ? now.cells.get(digit) : null;
    }

    private static boolean out(int value, int least, int most) {
        return value < least || value > most;
    }

    private void record() {
        history.addLast(now.copy());
        if (history.size() > 5) {
            history.removeFirst();
        }
    }

    int setDigits(int digits) {
        if (out(digits, 1, 8)) {
            return -2;
        }
        record();
        int previous = now.cells.size();
        while (now.cells.size() > digits) {
            now.cells.remove(now.cells.size() - 1);
        }
        while (now.cells.size() < digits) {
            now.cells.add(new Cell());
        }
        if (previous != digits) {
            now.newFrame();
        }
        return previous;
    }

    /** The settings of a digit: 1 to 3 as in digit(), and what they answer. */
    int setOfDigit(int what, int digit, int value) {
        int[] least = {0, 4, 0, 0};
        int[] most = {255, 40, 3, 15};
        if (cell(digit) == null) {
            return -1;
        }
        if (out(value, least[what], most[what])) {
            return -2;
        }
        record();
        Cell cell = cell(digit);
        int previous = digit(digit, what);
        switch (what) {
            case 0:
                cell.pattern = value;
                return previous;
            case 1:
                cell.width = value;
                if (previous != value) {
                    now.newFrame();
                }
                return now.length();
            case 2:
                cell.guard = value;
                return digit(digit, 5);
            default:
                cell.brightness = value;
                return digit(digit, 5);
        }
    }

    int setGroup(int digit, int group) {
        if (cell(digit) == null || out(group, 0, 3)) {
            return -1;
        }
        record();
        int previous = cell(digit).group;
        cell(digit).group = group;
        return previous;
    }

    int setBlink(int group, int on, int off) {
        if (out(group, 1, 3)) {
            return -1;
        }
        if (out(on, 1, 50) || out(off, 0, 50)) {
            return -2;
        }
        record();
        now.blink[group] = new int[] {on, off};
        return group(group, 3);
    }

    int set(int what, int value) {
        if (out(what, 0, 2)) {
            return -1;
        }
        if (out(value, new int[] {2, 1, 1}[what], new int[] {50, 1000, 1000000}[what])) {
            return -2;
        }
        record();
        int previous = now.settings[what];
        now.settings[what] = value;
        return previous;
    }

    int replace(int digit) {
        if (cell(digit) == null) {
            return -1;
        }
        record();
        Cell cell = cell(digit);
        int broken = cell.brokenCount();
        cell.glow = new int[8];
        cell.use = new int[8];
        cell.broken = new boolean[8];
        return broken;
    }

    int test(int frames) {
        if (out(frames, 0, 50)) {
            return -2;
        }
        record();
        int previous = now.testLeft;
        now.testLeft = frames;
        return previous;
    }

    int pass(int ticks) {
        if (out(ticks, 1, 500)) {
            return -2;
        }
        record();
        int sum = 0;
        for (int i = 0; i < ticks; i++) {
            sum += now.tick();
        }
        return sum;
    }

    int passFrames(int frames) {
        if (out(frames, 1, 20)) {
            return -2;
        }
        record();
        int last = now.frame + frames;
        while (now.frame < last) {
            now.tick();
        }
        return now.time;
    }

    int type(char character) {
        if (text.length() == 30) {
            return -3;
        }
        text += character;
        return text.length();
    }

    int clearText() {
        int previous = text.length();
        text = "";
        return previous;
    }

    int show() {
        List<Integer> patterns = new ArrayList<>();
        for (int i = 0; i < text.length(); i++) {
            char character = text.charAt(i);
            int index = TABLE.indexOf(character);
            if (index < 0 && character != '.') {
                return -100 - i;
            }
            boolean joins = i > 0 && character == '.' && text.charAt(i - 1) != '.';
            if (joins) {
                patterns.set(patterns.size() - 1, patterns.get(patterns.size() - 1) + 128);
            } else {
                patterns.add(index < 0 ? 128 : BITS[index]);
            }
            if (patterns.size() > now.cells.size()) {
                return -100 - i;
            }
        }
        record();
        for (int i = 0; i < now.cells.size(); i++) {
            now.cells.get(i).pattern = i < patterns.size() ? patterns.get(i) : 0;
        }
        return patterns.size();
    }

    int undo() {
        if (history.isEmpty()) {
            return -4;
        }
        now = history.removeLast();
        return history.size();
    }

    int keep(int slot) {
        if (out(slot, 0, 1)) {
            return -1;
        }
        kept[slot] = now.copy();
        return now.time;
    }

    int restore(int slot) {
        if (out(slot, 0, 1)) {
            return -1;
        }
        if (kept[slot] == null) {
            return -4;
        }
        record();
        now = kept[slot].copy();
        return now.time;
    }

    int digit(int digit, int what) {
        if (cell(digit) == null) {
            return -1;
        }
        if (out(what, 0, 11)) {
            return -2;
        }
        Cell cell = cell(digit);
        int seen = 0;
        int broken = 0;
        for (int i = 0; i < 8; i++) {
            seen += cell.glow[i] >= now.settings[1] ? 1 << i : 0;
            broken += cell.broken[i] ? 1 << i : 0;
        }
        int character = -4;
        for (int i = 0; i < BITS.length; i++) {
            character = BITS[i] == cell.pattern % 128 ? TABLE.charAt(i) : character;
        }
        int lit = (cell.width - cell.guard) * cell.brightness / 15;
        return new int[] {cell.pattern, cell.width, cell.guard, cell.brightness, cell.group, lit,
            now.owners().indexOf(digit), seen, broken, Arrays.stream(cell.glow).sum(), character,
            cell.driven}[what];
    }

    int segment(int digit, int segment, int what) {
        if (cell(digit) == null || out(segment, 0, 7)) {
            return -1;
        }
        if (out(what, 0, 3)) {
            return -2;
        }
        Cell cell = cell(digit);
        return new int[] {cell.glow[segment], cell.use[segment], cell.broken[segment] ? 1 : 0,
            cell.glow[segment] >= now.settings[1] ? 1 : 0}[what];
    }

    int litIn(int digit, int ticks) {
        if (cell(digit) == null) {
            return -1;
        }
        if (out(ticks, 0, 500)) {
            return -2;
        }
        World then = now.copy();
        for (int i = 0; i < ticks; i++) {
            then.tick();
        }
        int bits = 0;
        for (int i = 0; i < 8; i++) {
            bits += then.owners().get(then.inFrame) == digit && then.litNow()[i] ? 1 << i : 0;
        }
        return bits;
    }

    int steadyGlow(int digit) {
        if (cell(digit) == null) {
            return -1;
        }
        int lit = digit(digit, 5);
        List<Integer> ends = new ArrayList<>();
        int glow = 0;
        while (lit > 0 && (ends.size() < 2
            || !ends.get(ends.size() - 1).equals(ends.get(ends.size() - 2)))) {
            for (int tick = 0; tick < now.length(); tick++) {
                if (tick < lit) {
                    glow = Math.min(1000, Math.max(glow + 1, glow + (1000 - glow) / 4));
                } else {
                    glow = Math.max(0, glow - glow / now.settings[0] - 1);
                }
                if (tick == lit - 1) {
                    ends.add(glow);
                }
            }
        }
        return lit == 0 ? 0 : ends.get(ends.size() - 1);
    }

    float current(int what) {
        return out(what, 0, 2) ? 0f : new float[] {now.current, now.peak, now.charge}[what];
    }

    int thousandths(int what) {
        return out(what, 0, 2) ? -2 : (int) (current(what) * 1000f);
    }

    float duty(int digit) {
        return cell(digit) == null || now.time == 0 ? 0f
            : (float) cell(digit).driven / (float) now.time;
    }

    int count(int what) {
        if (out(what, 0, 13)) {
            return -2;
        }
        return new int[] {now.time, now.cells.size(), now.length(), now.frame, now.inFrame,
            now.owners().get(now.inFrame), now.testLeft, now.driven,
            now.cells.stream().mapToInt(Cell::brokenCount).sum(), now.settings[0], now.settings[1],
            now.settings[2], history.size(), text.length()}[what];
    }

    int group(int group, int what) {
        if (out(group, 0, 3)) {
            return -1;
        }
        if (out(what, 0, 3)) {
            return -2;
        }
        return new int[] {now.blink[group][0], now.blink[group][1], now.groupOn(group) ? 1 : 0,
            (int) now.cells.stream().filter(cell -> cell.group == group).count()}[what];
    }
}
