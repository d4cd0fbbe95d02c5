/** Promises 12 to 20: count, phase, record, ifLoaded, settles, greatestLoad, unbalance, meanVoltage, digest. */
public final class QuestionTest {
    private static final int NONE = PhaseConverter.NONE;
    private static final Class<IllegalArgumentException> ARGUMENT = IllegalArgumentException.class;
    private static final Class<IndexOutOfBoundsException> INDEX = IndexOutOfBoundsException.class;

    public static void main(String[] args) {
        promise12Count();
        promise13Phase();
        promise14Record();
        promise15IfLoaded();
        promise15IfLoadedByHand();
        promise15Refuses();
        promise16Settles();
        promise16SettlesByHand();
        promise17GreatestLoad();
        promise17GreatestLoadByHand();
        promise18Unbalance();
        promise19MeanVoltage();
        promise20Digest();
        promise20DigestSeesTheCounts();
        Check.end("QuestionTest");
    }

    private static PhaseConverter running(int phases, int load, int cycles) {
        PhaseConverter x = new PhaseConverter();
        x.begin(phases);
        x.set(2, load);
        x.start();
        x.run(cycles);
        return x;
    }

    private static void promise12Count() {
        PhaseConverter x = running(3, 5000, 21);
        for (int what : new int[] {-1, 15, Integer.MIN_VALUE, Integer.MAX_VALUE}) {
            Check.refuses("count(" + what + ")", x, ARGUMENT, () -> x.count(what));
        }
        for (int what = 0; what < 15; what++) {
            int asked = what;
            Check.asks("count(" + what + ")", x, x.count(what), () -> x.count(asked));
        }
        int limits = 0;
        int skipped = 0;
        for (int p = 0; p < 3; p++) {
            limits += x.phase(p, 4);
            skipped += x.phase(p, 5);
        }
        Check.same("limit events are those of the phases", x.count(9), limits);
        Check.same("skipped pulses are those of the phases", x.count(10), skipped);
        Check.same("cycles", x.count(4), 21);
        Check.same("phases", x.count(13), 3);
        Check.same("records", x.count(14), 16);
        Check.same("mean current", x.count(5), x.record(0, 1));
        Check.same("ripple", x.count(8), x.record(0, 2));
        int greatest = x.count(11);
        x.stop();
        x.set(2, 60000);
        x.run(50);
        Check.same("the greatest current stays", x.count(11), greatest);
        Check.same("no current now", x.phase(0, 0) + x.phase(1, 0) + x.phase(2, 0) < greatest ? 1 : 0, 1);
    }

    private static void promise13Phase() {
        PhaseConverter x = running(3, 20000, 30);
        int[] wrongPhases = {-1, 3, 4, Integer.MIN_VALUE, Integer.MAX_VALUE};
        for (int p : wrongPhases) {
            Check.refuses("phase(" + p + ", 0)", x, INDEX, () -> x.phase(p, 0));
            Check.refuses("phase(" + p + ", 7)", x, INDEX, () -> x.phase(p, 7));
        }
        for (int what : new int[] {-1, 7, Integer.MIN_VALUE, Integer.MAX_VALUE}) {
            Check.refuses("phase(2, " + what + ")", x, ARGUMENT, () -> x.phase(2, what));
        }
        for (int p = 0; p < 3; p++) {
            Check.same("pulses and skipped ones of phase " + p, x.phase(p, 5) + x.phase(p, 6), 30);
        }
        x.begin(4);
        Check.same("phase(3, 0) of four", x.phase(3, 0), 0);
        Check.refuses("phase(4, 0) of four", x, INDEX, () -> x.phase(4, 0));
        x.begin(1);
        Check.refuses("phase(1, 0) of one", x, INDEX, () -> x.phase(1, 0));
        Check.asks("phase(0, 6)", x, 0, () -> x.phase(0, 6));
    }

    private static void promise14Record() {
        PhaseConverter x = new PhaseConverter();
        Check.refuses("record(0, 0) of none", x, INDEX, () -> x.record(0, 0));
        Check.refuses("record(0, 6) of none", x, INDEX, () -> x.record(0, 6));
        x.set(2, 4000);
        x.start();
        int[] voltages = new int[40];
        int[] means = new int[40];
        int[] ripples = new int[40];
        int[] modes = new int[40];
        for (int i = 0; i < 40; i++) {
            voltages[i] = x.run(1);
            means[i] = x.count(5);
            ripples[i] = x.count(8);
            modes[i] = x.count(0);
            Check.same("records", x.count(14), Math.min(i + 1, 16));
        }
        for (int i = 0; i < 16; i++) {
            int cycle = 39 - i;
            Check.record("record " + i, x, i, voltages[cycle], means[cycle], ripples[cycle], 2, modes[cycle]);
        }
        for (int index : new int[] {16, 17, -1, Integer.MIN_VALUE, Integer.MAX_VALUE}) {
            Check.refuses("record(" + index + ", 0)", x, INDEX, () -> x.record(index, 0));
            Check.refuses("record(" + index + ", 6)", x, INDEX, () -> x.record(index, 6));
        }
        for (int what : new int[] {-1, 6, Integer.MIN_VALUE, Integer.MAX_VALUE}) {
            Check.refuses("record(15, " + what + ")", x, ARGUMENT, () -> x.record(15, what));
        }
        x.begin(2);
        x.run(3);
        Check.same("records after begin", x.count(14), 3);
        Check.refuses("record(3, 0)", x, INDEX, () -> x.record(3, 0));
        Check.record("a record when off", x, 2, 0, 0, 0, 2, 0, 0);
    }

    private static void promise15IfLoaded() {
        int[] loads = {0, 300, 1000, 9000, 25000, 60000};
        for (int load : loads) {
            for (int cycles : new int[] {1, 2, 7, 100}) {
                PhaseConverter x = running(3, 2000, 50);
                PhaseConverter twin = running(3, 2000, 50);
                twin.set(2, load);
                twin.run(cycles);
                String with = " with " + load + " for " + cycles;
                Check.asks("voltage" + with, x, twin.count(1), () -> x.ifLoaded(load, cycles, 0));
                Check.asks("mode" + with, x, twin.count(0), () -> x.ifLoaded(load, cycles, 3));
                Check.asks("active phases" + with, x, twin.count(3), () -> x.ifLoaded(load, cycles, 4));
                if (cycles == 1) {
                    int least = x.ifLoaded(load, 1, 1);
                    int greatest = x.ifLoaded(load, 1, 2);
                    Check.same("ripple" + with, greatest - least, twin.count(8));
                }
                Check.same("setting", x.setting(2), 2000);
            }
        }
        // It follows the ramp, from the very beginning too.
        PhaseConverter x = new PhaseConverter();
        x.start();
        PhaseConverter twin = new PhaseConverter();
        twin.set(2, 2500);
        twin.start();
        Check.asks("voltage from the start", x, twin.run(60), () -> x.ifLoaded(2500, 60, 0));
        Check.asks("greatest current from the start", x, twin.count(11), () -> x.ifLoaded(2500, 60, 5));
    }

    /** Off, at 40000, without a current: a load takes its part of the voltage in each slot. */
    private static PhaseConverter charged() {
        PhaseConverter x = new PhaseConverter();
        x.begin(1);
        x.set(0, 24000);
        x.set(2, 0);
        x.set(3, 1);
        x.set(4, 1);
        x.set(5, 30000);
        x.set(8, 2000);
        x.set(12, 30000);
        x.start();
        x.run(1);
        Check.counts("charged", x, 3, 40000);
        Check.same("without a current", x.phase(0, 0), 0);
        x.stop();
        x.run(1);
        return x;
    }

    private static void promise15IfLoadedByHand() {
        PhaseConverter x = charged();
        Check.asks("end", x, 40000 - 20 * 100, () -> x.ifLoaded(100, 1, 0));
        Check.asks("least", x, 40000 - 20 * 100, () -> x.ifLoaded(100, 1, 1));
        Check.asks("greatest is at the end of the first slot", x, 40000 - 100, () -> x.ifLoaded(100, 1, 2));
        Check.asks("greatest of many cycles", x, 40000 - 100, () -> x.ifLoaded(100, 20, 2));
        Check.asks("least of many cycles", x, 0, () -> x.ifLoaded(100, 20, 1));
        Check.asks("least of 19", x, 40000 - 19 * 2000, () -> x.ifLoaded(100, 19, 1));
        Check.asks("mode", x, 0, () -> x.ifLoaded(100, 1, 3));
        Check.asks("active", x, 1, () -> x.ifLoaded(100, 1, 4));
        Check.same("a phase had a current", x.count(11), 24000);
        Check.asks("but none in these cycles", x, 0, () -> x.ifLoaded(100, 1, 5));
        Check.asks("without a load", x, 40000, () -> x.ifLoaded(0, 100, 1));
        Check.asks("the greatest load", x, 0, () -> x.ifLoaded(60000, 1, 2));
        // 24000 in slot 0 and clamped to 40000 in slot 1, when it trips.
        PhaseConverter y = charged();
        y.set(2, 60000);
        y.run(1);
        y.start();
        Check.asks("mode", y, 3, () -> y.ifLoaded(0, 1, 3));
        Check.asks("least", y, 24000, () -> y.ifLoaded(0, 1, 1));
        Check.asks("least of two cycles", y, 24000, () -> y.ifLoaded(0, 2, 1));
        Check.asks("greatest", y, 40000, () -> y.ifLoaded(0, 2, 2));
        Check.asks("current", y, 24000, () -> y.ifLoaded(0, 1, 5));
        Check.asks("end", y, 40000, () -> y.ifLoaded(0, 1, 0));
    }

    private static void promise15Refuses() {
        PhaseConverter x = running(2, 1000, 20);
        int[][] wrong = {{-1, 1, 0}, {60001, 1, 0}, {0, 0, 0}, {0, 101, 0}, {0, 1, -1}, {0, 1, 6},
            {-1, -1, -1}, {Integer.MAX_VALUE, 1, 0}, {0, Integer.MAX_VALUE, 0}, {0, 1, Integer.MAX_VALUE},
            {Integer.MIN_VALUE, 1, 0}, {0, Integer.MIN_VALUE, 0}, {0, 1, Integer.MIN_VALUE}};
        for (int[] a : wrong) {
            Check.refuses("ifLoaded(" + a[0] + ", " + a[1] + ", " + a[2] + ")", x, ARGUMENT,
                () -> x.ifLoaded(a[0], a[1], a[2]));
        }
    }

    private static int settlesOfTwin(PhaseConverter twin, int band) {
        boolean[] inside = new boolean[203];
        for (int i = 1; i <= 202; i++) {
            inside[i] = Math.abs(twin.run(1) - twin.setting(1)) <= band;
        }
        for (int n = 1; n <= 200; n++) {
            if (inside[n] && inside[n + 1] && inside[n + 2]) {
                return n;
            }
        }
        return NONE;
    }

    private static void promise16Settles() {
        for (int band : new int[] {0, 1, 10, 50, 300, 3299, 3300, 5000}) {
            for (int load : new int[] {0, 500, 3000, 20000}) {
                PhaseConverter x = running(2, load, 5);
                int due = settlesOfTwin(running(2, load, 5), band);
                Check.asks("settles(" + band + ") with " + load, x, due, () -> x.settles(band));
            }
        }
        PhaseConverter x = running(2, 1000, 20);
        for (int band : new int[] {-1, 5001, Integer.MIN_VALUE, Integer.MAX_VALUE}) {
            Check.refuses("settles(" + band + ")", x, ARGUMENT, () -> x.settles(band));
        }
    }

    /** Off, the output falls by 20 steps of load / capacity a cycle. */
    private static void promise16SettlesByHand() {
        PhaseConverter x = charged();
        x.set(1, 12000);
        x.set(2, 10);
        // At the end of cycle n: 40000 - 200 * n.
        Check.asks("12000 is met only once", x, NONE, () -> x.settles(0));
        Check.asks("12200, 12000, 11800 are in 200", x, 139, () -> x.settles(200));
        Check.asks("not in 199", x, NONE, () -> x.settles(199));
        x.set(2, 5);
        // 40000 - 100 * n: at 200 it is 20000, at 202 19800.
        Check.asks("never in 5000", x, NONE, () -> x.settles(5000));
        x.set(2, 6);
        // 40000 - 120 * n: 17000 is passed at n = 192.
        Check.asks("17000 and below", x, 192, () -> x.settles(5000));
        // 16000 is met at n = 200.
        Check.asks("n = 200 is allowed", x, 200, () -> x.settles(4000));
        Check.asks("n = 201 is not", x, NONE, () -> x.settles(3999));
        // 40000 - 220 * n: 12280, 12060, 11840, 11620 at n = 126 to 129.
        x.set(2, 11);
        Check.asks("two cycles are too few", x, NONE, () -> x.settles(160));
        Check.asks("three are enough", x, 126, () -> x.settles(280));
        x.set(1, 500);
        x.set(2, 60000);
        Check.asks("a cycle is not too few", x, 1, () -> x.settles(500));
        Check.asks("499", x, NONE, () -> x.settles(499));
    }

    private static int greatestLoadByIfLoaded(PhaseConverter x, int level) {
        for (int load = 20000; load >= 0; load -= 500) {
            if (x.ifLoaded(load, 30, 1) >= level) {
                return load;
            }
        }
        return NONE;
    }

    private static void promise17GreatestLoad() {
        for (int level : new int[] {0, 1, 100, 2500, 3000, 3200, 3290, 3310, 4000, 40000}) {
            PhaseConverter x = running(4, 3000, 60);
            int due = greatestLoadByIfLoaded(x, level);
            Check.asks("greatestLoad(" + level + ")", x, due, () -> x.greatestLoad(level));
        }
        PhaseConverter x = running(2, 1000, 20);
        for (int level : new int[] {-1, 40001, Integer.MIN_VALUE, Integer.MAX_VALUE}) {
            Check.refuses("greatestLoad(" + level + ")", x, ARGUMENT, () -> x.greatestLoad(level));
        }
    }

    private static void promise17GreatestLoadByHand() {
        PhaseConverter x = charged();
        x.set(4, 500);
        // A load of 500 * k takes k a slot, 600 * k in the 30 cycles.
        Check.asks("40000", x, 0, () -> x.greatestLoad(40000));
        Check.asks("39999", x, 0, () -> x.greatestLoad(39999));
        Check.asks("39401", x, 0, () -> x.greatestLoad(39401));
        Check.asks("39400", x, 500, () -> x.greatestLoad(39400));
        Check.asks("16001", x, 19500, () -> x.greatestLoad(16001));
        Check.asks("16000", x, 20000, () -> x.greatestLoad(16000));
        Check.asks("0", x, 20000, () -> x.greatestLoad(0));
        Check.same("the load stays", x.setting(2), 0);
        PhaseConverter y = new PhaseConverter();
        Check.asks("nothing is at 1 or above", y, NONE, () -> y.greatestLoad(1));
    }

    private static void promise18Unbalance() {
        for (int phases = 1; phases <= 4; phases++) {
            PhaseConverter x = running(phases, 9000, 37);
            int least = x.phase(0, 0);
            int greatest = least;
            for (int p = 1; p < phases; p++) {
                least = Math.min(least, x.phase(p, 0));
                greatest = Math.max(greatest, x.phase(p, 0));
            }
            Check.asks("unbalance of " + phases, x, greatest - least, x::unbalance);
        }
        Check.same("one phase", running(1, 9000, 37).unbalance(), 0);
        PhaseConverter x = new PhaseConverter();
        x.begin(3);
        x.set(2, 60000);
        x.set(3, 100);
        x.set(8, 2000);
        x.set(14, 0);
        x.start();
        // 900: 18 slots of 120 from slot 0, 14 of them from slot 6, 7 of them from slot 13.
        x.run(1);
        Check.asks("the last is the least", x, (18 - 7) * 120, x::unbalance);
    }

    private static void promise19MeanVoltage() {
        PhaseConverter x = new PhaseConverter();
        Check.sameDouble("no records", x.meanVoltage(), 0.0);
        x.start();
        for (int i = 1; i <= 20; i++) {
            x.run(1);
            double sum = 0.0;
            for (int r = 0; r < x.count(14); r++) {
                sum += x.record(r, 0);
            }
            Check.sameDouble("mean voltage", x.meanVoltage(), sum / Math.min(i, 16));
        }
        // 40000 - 2000, - 4000 and so on, with two records of 40000 before.
        PhaseConverter y = charged();
        Check.sameDouble("two records", y.meanVoltage(), 40000.0);
        y.set(2, 100);
        y.run(1);
        Check.sameDouble("three records", y.meanVoltage(), 118000.0 / 3);
        y.begin(1);
        Check.sameDouble("after begin", y.meanVoltage(), 0.0);
    }

    private static long digestByQuestions(PhaseConverter x, String buffer) {
        long hash = 2017;
        for (int what = 0; what < 15; what++) {
            hash = 31 * hash + x.count(what);
        }
        for (int i = 0; i < 15; i++) {
            hash = 31 * hash + x.setting(i);
        }
        for (int p = 0; p < x.count(13); p++) {
            for (int what = 0; what < 7; what++) {
                hash = 31 * hash + x.phase(p, what);
            }
        }
        for (int r = 0; r < x.count(14); r++) {
            for (int what = 0; what < 6; what++) {
                hash = 31 * hash + x.record(r, what);
            }
        }
        hash = 31 * hash + x.settles(50);
        hash = 31 * hash + x.unbalance();
        hash = 31 * hash + buffer.length();
        for (int i = 0; i < buffer.length(); i++) {
            hash = 31 * hash + buffer.charAt(i);
        }
        return hash;
    }

    private static void promise20Digest() {
        for (int phases = 1; phases <= 4; phases++) {
            PhaseConverter x = running(phases, 7000, 9 * phases);
            String buffer = phases == 1 ? "" : "r5,~!";
            Check.type(x, buffer);
            Check.asks("digest of " + phases, x, digestByQuestions(x, buffer), x::digest);
        }
        // 12000 - 40 * n at the end of cycle n: 50 above the target at n = 10, and 51 above it.
        for (int target : new int[] {11550, 11549}) {
            PhaseConverter x = charged();
            x.set(2, 100);
            x.run(14);
            x.set(2, 2);
            x.set(1, target);
            Check.same("settles(50)", x.settles(50), target == 11550 ? 10 : NONE);
            Check.asks("digest with the band of 50", x, digestByQuestions(x, ""), x::digest);
        }
        PhaseConverter off = new PhaseConverter();
        Check.same("digest of a new object", off.digest(), SettingsTest.freshDigest(2, ""));
        Check.type(off, "s");
        Check.same("digest with a buffer", off.digest(), SettingsTest.freshDigest(2, "s"));
    }

    private static void promise20DigestSeesTheCounts() {
        PhaseConverter x = running(2, 7000, 9);
        long before = x.digest();
        x.set(14, 99);
        Check.same("a setting changes it", x.digest() != before ? 1 : 0, 1);
        x.set(14, 100);
        Check.same("and back", x.digest(), before);
        x.append('s');
        Check.same("a character changes it", x.digest() != before ? 1 : 0, 1);
    }
}
