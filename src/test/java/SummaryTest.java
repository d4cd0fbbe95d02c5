/** Promises 18 to 20: unbalance, meanVoltage, digest. */
public final class SummaryTest {
    private static final int PROPERTIES = 7;
    private static final int PARTS = 6;
    private static final long NEW_OBJECT = 7248665258801010950L;
    private static final long ONE_PHASE_AND_BUFFER = 4012722030964558391L;

    public static void main(String[] args) {
        Check.run("SummaryTest", sentences());
    }

    static Sentences sentences() {
        return new Sentences()
            .in("Promise 18: unbalance")
            .holds("Returns how unlike the currents of the active phases are.", SummaryTest::activeOnesOnly)
            .holds("Returns the greatest one minus the least one.", SummaryTest::greatestMinusLeast)
            .in("Promise 19: meanVoltage")
            .holds("Returns the mean output voltage of the kept records.", SummaryTest::keptRecordsOnly)
            .holds("Returns the sum of the output voltages of all records, as a double, divided by their number;",
                SummaryTest::sumByNumber)
            .holds("0.0 if there are none.", SummaryTest::noRecords)
            .in("Promise 20: digest")
            .holds("Computes a hash of the whole state.", SummaryTest::digestChangesNothing)
            .holds("The hash starts at 2017.", SummaryTest::startsAt2017)
            .holds("For each value v of the following list, in order, the hash becomes 31 * hash + v, in long "
                + "arithmetic with overflow.", SummaryTest::longWithOverflow)
            .holds("The values are: count(0) to count(14);", SummaryTest::countsIn)
            .holds("all settings;", SummaryTest::settingsIn)
            .holds("for each phase its properties 0 to 6;", SummaryTest::phasesIn)
            .holds("for each record, the latest first, its parts 0 to 5;", SummaryTest::recordsIn)
            .holds("settles(50);", SummaryTest::settlesIn)
            .holds("unbalance;", SummaryTest::unbalanceIn)
            .holds("the length of the buffer and each of its character codes.", SummaryTest::bufferIn)
            .holds("Returns the hash.", SummaryTest::digestsByTheList);
    }

    private static void activeOnesOnly() {
        PhaseConverter x = Converters.shorted(2, 100);
        Converters.set(x, 5, 30000, 11, 30000, 14, 0);
        x.start();
        x.run(4);
        Check.same("both are active", x.unbalance(), 8 * 120);
        x.run(1);
        Check.yes("they differ still", x.phase(0, 0) != x.phase(1, 0));
        Check.same("one is active", x.unbalance(), 0);
        for (int n = 1; n <= 4; n++) {
            Check.same("without currents", Converters.begun(n).unbalance(), 0);
        }
        Check.asks("nothing is changed", x, 0, x::unbalance);
    }

    private static void greatestMinusLeast() {
        // Pulses of 18 slots: 18 are on in phase 0, and from its slot on in the others.
        int[] least = {0, 18, 10, 7, 5};
        for (int n = 1; n <= 4; n++) {
            PhaseConverter x = Converters.shorted(n, 100);
            x.set(14, 0);
            x.start();
            x.run(1);
            Check.same("the first is the greatest of " + n, x.unbalance(), (18 - least[n]) * 120);
        }
        // 300, 500 and 600: the last is the greatest; 100, 100 and 200 before it.
        PhaseConverter y = CycleTest.threeOf100(1000);
        y.run(1);
        Check.same("200 - 100", y.unbalance(), 100);
        y.run(1);
        Check.same("600 - 300", y.unbalance(), 300);
        // The one between is the greatest, or the least.
        boolean greatest = false;
        boolean smallest = false;
        PhaseConverter z = Converters.begun(3, 2, 9000, 12, 30000);
        z.start();
        for (int i = 0; i < 60; i++) {
            z.run(1);
            int a = z.phase(0, 0);
            int b = z.phase(1, 0);
            int c = z.phase(2, 0);
            greatest |= b > a && b > c;
            smallest |= b < a && b < c;
            Check.same("unbalance", z.unbalance(), Math.max(a, Math.max(b, c)) - Math.min(a, Math.min(b, c)));
        }
        Check.yes("both were seen", greatest && smallest);
    }

    private static void keptRecordsOnly() {
        // Two records of 40000, and 100 less in each cycle.
        PhaseConverter x = Converters.held(1, 40000);
        x.set(2, 5);
        x.run(14);
        Check.sameDouble("16 records", x.meanVoltage(), (16 * 40000.0 - 100 * (14 * 15 / 2)) / 16);
        x.run(1);
        Check.sameDouble("the first is not kept", x.meanVoltage(), (16 * 40000.0 - 100 * (15 * 16 / 2)) / 16);
        x.run(1);
        Check.sameDouble("nor the second", x.meanVoltage(), (16 * 40000.0 - 100 * (16 * 17 / 2)) / 16);
        long before = x.digest();
        x.meanVoltage();
        Check.same("nothing is changed", x.digest(), before);
    }

    private static void sumByNumber() {
        PhaseConverter x = Converters.held(1, 40000);
        Check.sameDouble("two records", x.meanVoltage(), 40000.0);
        x.set(2, 100);
        x.run(1);
        Check.sameDouble("three records", x.meanVoltage(), 118000.0 / 3);
        x.run(4);
        Check.sameDouble("seven records", x.meanVoltage(), (7 * 40000.0 - 2000 * 15) / 7);
        PhaseConverter y = Converters.begun(2);
        y.run(1);
        Check.sameDouble("one record of 0", y.meanVoltage(), 0.0);
        PhaseConverter z = Converters.highOutput(30000);
        z.start();
        z.run(1);
        Check.sameDouble("one record of 12000", z.meanVoltage(), 12000.0);
        z.set(2, 1);
        z.run(1);
        Check.sameDouble("two records", z.meanVoltage(), 11990.0);
        z.set(2, 2);
        z.run(1);
        Check.sameDouble("three records", z.meanVoltage(), (12000 + 11980 + 11940) / 3.0);
    }

    private static void noRecords() {
        Check.sameDouble("a new object", new PhaseConverter().meanVoltage(), 0.0);
        PhaseConverter x = Converters.held(1, 40000);
        x.begin(1);
        Check.sameDouble("after begin", x.meanVoltage(), 0.0);
        x.start();
        Check.sameDouble("after start", x.meanVoltage(), 0.0);
    }

    private static void digestChangesNothing() {
        for (boolean adding : new boolean[] {true, false}) {
            PhaseConverter x = OutlookTest.beforeAChange(adding);
            PhaseConverter twin = OutlookTest.beforeAChange(adding);
            long hash = x.digest();
            Check.same("again", x.digest(), hash);
            // The twin is not asked before its end, so that what the hash does to itself would show.
            for (int i = 0; i < 9; i++) {
                x.run(1);
                twin.run(1);
                x.digest();
                for (int what = 0; what <= 14; what++) {
                    Check.same("count(" + what + ")", x.count(what), twin.count(what));
                }
            }
            Check.same("twins are alike", x.digest(), twin.digest());
            Check.yes("another state has another hash", x.digest() != hash);
        }
    }

    private static void startsAt2017() {
        // 2017 times 31 to the power of all values of a new object, and the values of its list.
        long power = 1;
        for (int i = 0; i < 15 + 15 + 2 * PROPERTIES + 3; i++) {
            power *= 31;
        }
        Check.same("a new object", new PhaseConverter().digest(), 2017 * power + hashFrom0(new PhaseConverter(), ""));
    }

    private static void longWithOverflow() {
        // Worked out apart from this program, with numbers of any length, modulo 2 to the power of 64.
        Check.same("a new object", new PhaseConverter().digest(), NEW_OBJECT);
        PhaseConverter x = Converters.begun(1, 0, 24000, 2, 0, 3, 1, 4, 1);
        Converters.type(x, "r5,~!");
        Check.same("one phase and a buffer", x.digest(), ONE_PHASE_AND_BUFFER);
    }

    private static void changesTheDigest(String what, PhaseConverter x, Runnable change) {
        long before = x.digest();
        change.run();
        Check.yes(what + " changes the hash", x.digest() != before);
        Check.same("by the list", x.digest(), byTheList(x, ""));
    }

    private static void countsIn() {
        PhaseConverter x = Converters.running(2, 20, 9);
        changesTheDigest("stop", x, x::stop);
        changesTheDigest("start", x, x::start);
        for (int phases = 1; phases <= 4; phases++) {
            PhaseConverter y = Converters.running(phases, 5000, 30);
            Check.same("by the list", y.digest(), byTheList(y, ""));
        }
    }

    private static void settingsIn() {
        for (int i = 0; i < SettingsTest.SETTINGS; i++) {
            int setting = i;
            PhaseConverter x = new PhaseConverter();
            changesTheDigest("setting " + i, x, () -> x.set(setting, SettingsTest.LEAST[setting]));
        }
    }

    private static void phasesIn() {
        for (int phases = 1; phases <= 4; phases++) {
            PhaseConverter x = Converters.shorted(phases, 100);
            x.start();
            x.run(3);
            Check.same("by the list", x.digest(), byTheList(x, ""));
        }
        Check.yes("more phases", Converters.begun(3).digest() != Converters.begun(4).digest());
        // A phase that is not active counts on.
        PhaseConverter y = Converters.shorted(2, 100);
        y.set(11, 30000);
        y.start();
        y.run(7);
        Check.same("active phases", y.count(3), 1);
        Check.same("by the list", y.digest(), byTheList(y, ""));
    }

    private static void recordsIn() {
        for (int cycles = 1; cycles <= 19; cycles++) {
            PhaseConverter x = Converters.running(2, 1000, cycles);
            changesTheDigest("cycle " + (cycles + 1), x, () -> x.run(1));
        }
    }

    private static void settlesIn() {
        // At the end of cycle n 12000 - 40 * n: 50 above the target at n = 10, or 51 and then only 11 and -29.
        int[][] targets = {{11550, 10}, {11549, PhaseConverter.NONE}};
        for (int[] each : targets) {
            PhaseConverter x = Converters.held(1, 12000);
            Converters.set(x, 1, each[0], 2, 2);
            Check.same("settles(50)", x.settles(50), each[1]);
            Check.same("by the list", x.digest(), byTheList(x, ""));
        }
    }

    private static void unbalanceIn() {
        PhaseConverter x = Converters.shorted(2, 100);
        x.start();
        x.run(1);
        Check.same("unbalance", x.unbalance(), 960);
        Check.same("by the list", x.digest(), byTheList(x, ""));
    }

    private static void bufferIn() {
        PhaseConverter x = Converters.running(1, 1000, 3);
        String text = "";
        for (char code : "~!r1,".toCharArray()) {
            x.append(code);
            text += code;
            Check.same("with '" + text + "'", x.digest(), byTheList(x, text));
        }
        x.clearBuffer();
        Converters.type(x, Converters.FULL_PROGRAM);
        Check.same("a full buffer", x.digest(), byTheList(x, Converters.FULL_PROGRAM));
    }

    private static void digestsByTheList() {
        for (int phases = 1; phases <= 4; phases++) {
            PhaseConverter x = Converters.running(phases, 7000, 9 * phases);
            String buffer = phases == 1 ? "" : "r5,~!";
            Converters.type(x, buffer);
            Check.asks("digest of " + phases, x, byTheList(x, buffer), x::digest);
        }
        for (int mode = 0; mode <= 4; mode++) {
            PhaseConverter x = Converters.inMode(mode);
            Check.asks("digest in mode " + mode, x, byTheList(x, ""), x::digest);
        }
    }

    private static long byTheList(PhaseConverter x, String buffer) {
        return hashOf(2017, x, buffer);
    }

    private static long hashFrom0(PhaseConverter x, String buffer) {
        return hashOf(0, x, buffer);
    }

    private static long hashOf(long hash, PhaseConverter x, String buffer) {
        for (int what = 0; what < 15; what++) {
            hash = 31 * hash + x.count(what);
        }
        for (int i = 0; i < SettingsTest.SETTINGS; i++) {
            hash = 31 * hash + x.setting(i);
        }
        for (int p = 0; p < x.count(13); p++) {
            for (int what = 0; what < PROPERTIES; what++) {
                hash = 31 * hash + x.phase(p, what);
            }
        }
        for (int r = 0; r < x.count(14); r++) {
            for (int what = 0; what < PARTS; what++) {
                hash = 31 * hash + x.record(r, what);
            }
        }
        hash = 31 * hash + x.settles(50);
        hash = 31 * hash + x.unbalance();
        hash = 31 * hash + buffer.length();
        for (int i = 0; i < buffer.length(); i++) {
            hash = 31 * hash + buffer.charAt(i);
        }
        return hash;
    }
}
