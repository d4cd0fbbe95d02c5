import java.util.ArrayList;
import java.util.List;
import java.util.regex.Pattern;

/**
 * A second writing of the document, as literal as can be and in other means than the class
 * (long arithmetic, lists, regular expressions), for ModelTest to compare with.
 */
final class Model {
    private static final Pattern PROGRAM =
        Pattern.compile("([sx]|[itlcr](0|[1-9][0-9]{0,4}))(,([sx]|[itlcr](0|[1-9][0-9]{0,4})))*");

    long[] settings;
    int n;
    int m;
    long[] current;
    long[] on;
    long[] rest;
    long[] onSlots;
    long[] limits;
    long[] skips;
    long[] pulses;
    long v;
    long target;
    long integral;
    int mode;
    long duty;
    int addCount;
    int shedCount;
    long mean;
    long ripple;
    long cycles;
    long peak;
    long changes;
    List<long[]> records;
    StringBuilder buffer = new StringBuilder();
    /** The output voltages at the ends of all slots since it was cleared. */
    List<Long> trace = new ArrayList<>();

    Model() {
        fresh(2);
    }

    private void fresh(int phases) {
        settings = new long[15];
        for (int i = 0; i < 15; i++) {
            settings[i] = SettingsTest.AT_FIRST[i];
        }
        n = phases;
        m = phases;
        current = new long[n];
        on = new long[n];
        rest = new long[n];
        onSlots = new long[n];
        limits = new long[n];
        skips = new long[n];
        pulses = new long[n];
        v = 0;
        target = 0;
        integral = 0;
        mode = 0;
        duty = 0;
        addCount = 0;
        shedCount = 0;
        mean = 0;
        ripple = 0;
        cycles = 0;
        peak = 0;
        changes = 0;
        records = new ArrayList<>();
    }

    private Model copy() {
        Model c = new Model();
        c.settings = settings.clone();
        c.n = n;
        c.m = m;
        c.current = current.clone();
        c.on = on.clone();
        c.rest = rest.clone();
        c.onSlots = onSlots.clone();
        c.limits = limits.clone();
        c.skips = skips.clone();
        c.pulses = pulses.clone();
        c.v = v;
        c.target = target;
        c.integral = integral;
        c.mode = mode;
        c.duty = duty;
        c.addCount = addCount;
        c.shedCount = shedCount;
        c.mean = mean;
        c.cycles = cycles;
        return c;
    }

    private boolean running() {
        return mode == 1 || mode == 2;
    }

    private void stopWith(int newMode) {
        mode = newMode;
        on = new long[n];
    }

    private static long within(long x, long low, long high) {
        return Math.max(low, Math.min(high, x));
    }

    private static long total(long[] row, int count) {
        long sum = 0;
        for (int i = 0; i < count; i++) {
            sum += row[i];
        }
        return sum;
    }

    private void cycle() {
        long limitsBefore = total(limits, n);
        // 1
        if (running() && settings[0] < settings[13]) {
            stopWith(4);
        }
        // 2
        int modeBefore = mode;
        if (modeBefore == 1) {
            target += settings[8];
            if (target >= settings[1]) {
                target = settings[1];
                mode = 2;
            }
        }
        if (modeBefore == 2) {
            target = settings[1];
        }
        // 3
        if (running()) {
            long e = target - v;
            integral = within(integral + e, -100000, 100000);
            duty = within(1000 * target / settings[0] + e * settings[6] / 100 + integral * settings[7] / 10000, 0, 900);
        }
        // 4
        if (running()) {
            phasesStep();
        }
        // 5
        long sum = 0;
        List<Long> voltages = new ArrayList<>();
        for (int s = 0; s < 20; s++) {
            slot(s);
            sum += total(current, n);
            voltages.add(v);
            for (long c : current) {
                peak = Math.max(peak, c);
            }
        }
        // 6
        trace.addAll(voltages);
        mean = sum / 20;
        ripple = voltages.stream().max(Long::compare).get() - voltages.stream().min(Long::compare).get();
        cycles++;
        records.add(0, new long[] {v, mean, ripple, m, mode, total(limits, n) - limitsBefore});
        if (records.size() > 16) {
            records.remove(16);
        }
    }

    private void phasesStep() {
        long a = mean;
        boolean increased = false;
        if (a > settings[10] * m && m < n) {
            addCount += 1;
        } else {
            addCount = 0;
        }
        if (addCount == 3) {
            m += 1;
            addCount = 0;
            shedCount = 0;
            increased = true;
            changes++;
        }
        if (!increased) {
            if (m > 1 && a < settings[11] * (m - 1)) {
                shedCount += 1;
            } else {
                shedCount = 0;
            }
            if (shedCount == 5) {
                m -= 1;
                addCount = 0;
                shedCount = 0;
                on[m] = 0;
                changes++;
            }
        }
    }

    private void slot(int s) {
        // 1
        for (int p = 0; p < m; p++) {
            if (running() && s == 20 * p / m) {
                if (v >= target && (mode == 1 || mean < settings[9])) {
                    on[p] = 0;
                    skips[p]++;
                } else {
                    long b = within(duty - (current[p] - total(current, m) / m) * settings[14] / 1000, 0, 900);
                    rest[p] += 20 * b;
                    on[p] = rest[p] / 1000;
                    rest[p] %= 1000;
                    pulses[p]++;
                }
            }
        }
        // 2
        for (int p = 0; p < n; p++) {
            if (on[p] > 0 && current[p] >= settings[5]) {
                on[p] = 0;
                limits[p]++;
            }
            if (on[p] > 0) {
                on[p]--;
                onSlots[p]++;
                current[p] += (settings[0] - v) / settings[3];
            } else {
                current[p] -= v / settings[3];
            }
            current[p] = Math.max(0, current[p]);
        }
        // 3
        v = within(v + (total(current, n) - settings[2]) / settings[4], 0, 40000);
        // 4
        if (running() && v > settings[12]) {
            stopWith(3);
        }
    }

    // ---- the calls; each throws before it changes anything

    private static void argument(boolean right) {
        if (!right) {
            throw new IllegalArgumentException();
        }
    }

    private static void index(boolean right) {
        if (!right) {
            throw new IndexOutOfBoundsException();
        }
    }

    private static void state(boolean right) {
        if (!right) {
            throw new IllegalStateException();
        }
    }

    int begin(int phases) {
        argument(phases >= 1 && phases <= 4);
        int before = n;
        fresh(phases);
        return before;
    }

    long set(int setting, int value) {
        index(setting >= 0 && setting <= 14);
        argument(value >= SettingsTest.LEAST[setting] && value <= SettingsTest.GREATEST[setting]);
        long before = settings[setting];
        settings[setting] = value;
        return before;
    }

    long setting(int setting) {
        index(setting >= 0 && setting <= 14);
        return settings[setting];
    }

    long start() {
        state(!running());
        mode = 1;
        target = v;
        integral = 0;
        addCount = 0;
        shedCount = 0;
        rest = new long[n];
        m = n;
        return v;
    }

    int stop() {
        int before = mode;
        stopWith(0);
        return before;
    }

    long run(int count) {
        argument(count >= 1 && count <= 200);
        state(cycles + count <= 100000);
        for (int i = 0; i < count; i++) {
            cycle();
        }
        trace.clear();
        return v;
    }

    int append(int code) {
        argument(code >= 33 && code <= 126);
        state(buffer.length() < 50);
        buffer.append((char) code);
        return buffer.length();
    }

    int clearBuffer() {
        int before = buffer.length();
        buffer.setLength(0);
        return before;
    }

    /** Whether some program begins with the text. */
    private static boolean isBeginning(String text) {
        for (String tail : new String[] {"", "s", "0"}) {
            if (PROGRAM.matcher(text + tail).matches()) {
                return true;
            }
        }
        return false;
    }

    int firstError() {
        for (int i = 0; i < buffer.length(); i++) {
            if (!isBeginning(buffer.substring(0, i + 1))) {
                return i;
            }
        }
        return buffer.length();
    }

    int play() {
        argument(PROGRAM.matcher(buffer).matches());
        String[] items = buffer.toString().split(",");
        buffer.setLength(0);
        int done = 0;
        for (String item : items) {
            try {
                int number = item.length() > 1 ? Integer.parseInt(item.substring(1)) : 0;
                switch (item.charAt(0)) {
                    case 's' -> start();
                    case 'x' -> stop();
                    case 'r' -> run(number);
                    default -> set("itl--c".indexOf(item.charAt(0)), number);
                }
            } catch (RuntimeException e) {
                return done;
            }
            done++;
        }
        return done;
    }

    long count(int what) {
        argument(what >= 0 && what <= 14);
        long[] all = {mode, v, target, m, cycles, mean, integral, duty, ripple, total(limits, n), total(skips, n),
            peak, changes, n, records.size()};
        return all[what];
    }

    long phase(int phase, int what) {
        index(phase >= 0 && phase < n);
        argument(what >= 0 && what <= 6);
        return new long[][] {current, on, rest, onSlots, limits, skips, pulses}[what][phase];
    }

    long record(int which, int what) {
        index(which >= 0 && which < records.size());
        argument(what >= 0 && what <= 5);
        return records.get(which)[what];
    }

    long ifLoaded(int load, int count, int what) {
        argument(load >= 0 && load <= 60000);
        argument(count >= 1 && count <= 100);
        argument(what >= 0 && what <= 5);
        Model c = copy();
        c.settings[2] = load;
        for (int i = 0; i < count; i++) {
            c.cycle();
        }
        long least = c.trace.stream().min(Long::compare).get();
        long greatest = c.trace.stream().max(Long::compare).get();
        return new long[] {c.v, least, greatest, c.mode, c.m, c.peak}[what];
    }

    int settles(int band) {
        argument(band >= 0 && band <= 5000);
        Model c = copy();
        List<Boolean> inside = new ArrayList<>();
        for (int i = 0; i < 202; i++) {
            c.cycle();
            inside.add(Math.abs(c.v - settings[1]) <= band);
        }
        for (int i = 1; i <= 200; i++) {
            if (inside.get(i - 1) && inside.get(i) && inside.get(i + 1)) {
                return i;
            }
        }
        return -1;
    }

    int greatestLoad(int level) {
        argument(level >= 0 && level <= 40000);
        int best = -1;
        for (int load = 0; load <= 20000; load += 500) {
            if (ifLoaded(load, 30, 1) >= level) {
                best = load;
            }
        }
        return best;
    }

    long unbalance() {
        long least = Long.MAX_VALUE;
        long greatest = 0;
        for (int p = 0; p < m; p++) {
            least = Math.min(least, current[p]);
            greatest = Math.max(greatest, current[p]);
        }
        return greatest - least;
    }

    double meanVoltage() {
        return records.stream().mapToLong(r -> r[0]).average().orElse(0.0);
    }

    long digest() {
        List<Long> values = new ArrayList<>();
        for (int what = 0; what <= 14; what++) {
            values.add(count(what));
        }
        for (long value : settings) {
            values.add(value);
        }
        for (int p = 0; p < n; p++) {
            for (int what = 0; what <= 6; what++) {
                values.add(phase(p, what));
            }
        }
        for (long[] record : records) {
            for (long part : record) {
                values.add(part);
            }
        }
        values.add((long) settles(50));
        values.add(unbalance());
        values.add((long) buffer.length());
        buffer.chars().forEach(code -> values.add((long) code));
        long hash = 2017;
        for (long value : values) {
            hash = 31 * hash + value;
        }
        return hash;
    }
}
