/** The terms "The state.", and promises 1 and 2: a new object, begin. */
public final class StateTest {
    public static void main(String[] args) {
        Check.run("StateTest", sentences());
    }

    static Sentences sentences() {
        return new Sentences()
            .in("What it is")
            .holds("An object is used for at most 512 calls after it has been made;", StateTest::the512thCall)
            .in("Terms")
            .holds("There are 1 to 4 phases, numbered from 0,", StateTest::phasesAreNumberedFrom0)
            .holds("and a number of active phases m: the phases 0 to m - 1 are active.", StateTest::theFirstAreActive)
            .holds("Each phase has a current (never negative),", StateTest::currentIsNeverNegative)
            .holds("a remaining on-time, and a rest, from 0 to 999.", StateTest::restIsBelow1000)
            .holds("There are an output voltage, from 0 to 40000,", StateTest::voltageFrom0To40000)
            .holds("a present target, an integral,", StateTest::targetAndIntegralAreKept)
            .holds("and a mode: 0 off, 1 ramping, 2 regulating, 3 tripped by overvoltage, 4 starved.",
                StateTest::modes)
            .holds("The converter runs in the modes 1 and 2.", StateTest::runsInModes1And2)
            .holds("At first all of these are 0, but all phases are active; so it is after begin.",
                StateTest::all0AtFirstAndAfterBegin)
            .in("Promise 1: A new object")
            .holds("Creates a converter with 2 phases,", StateTest::aNewObjectHas2Phases)
            .holds("the settings as told,", StateTest::aNewObjectHasTheSettingsAsTold)
            .holds("and an empty buffer.", StateTest::aNewObjectHasAnEmptyBuffer)
            .in("Promise 2: begin")
            .holds("Begins anew with all settings as at first;", StateTest::beginSetsAllSettingsBack)
            .holds("all counts are 0,", StateTest::beginClearsAllCounts)
            .holds("and there are no records.", StateTest::beginForgetsTheRecords)
            .holds("The buffer stays.", StateTest::beginLeavesTheBuffer)
            .holds("phases: 1 to 4", StateTest::beginTakes1To4)
            .holds("Returns the previous number of phases.", StateTest::beginAnswersThePreviousNumber)
            .holds("Throws IllegalArgumentException if phases is not 1 to 4", StateTest::beginRefuses);
    }

    /** The digest that a converter has after begin(phases), by the document's list. */
    static long freshDigest(int phases, String buffer) {
        long hash = 2017;
        int[] counts = {0, 0, 0, phases, 0, 0, 0, 0, 0, 0, 0, 0, 0, phases, 0};
        for (int value : counts) {
            hash = 31 * hash + value;
        }
        for (int value : SettingsTest.AT_FIRST) {
            hash = 31 * hash + value;
        }
        for (int i = 0; i < 7 * phases; i++) {
            hash = 31 * hash;
        }
        hash = 31 * hash - 1;
        hash = 31 * hash;
        hash = 31 * hash + buffer.length();
        for (int i = 0; i < buffer.length(); i++) {
            hash = 31 * hash + buffer.charAt(i);
        }
        return hash;
    }

    static void isFresh(String when, PhaseConverter x, int phases, String buffer) {
        Check.counts(when, x, 0, 0, 0, phases, 0, 0, 0, 0, 0, 0, 0, 0, 0, phases, 0);
        for (int p = 0; p < phases; p++) {
            Check.phase(when, x, p, 0, 0, 0, 0, 0, 0, 0);
        }
        Check.same(when + ": digest", x.digest(), freshDigest(phases, buffer));
    }

    /** Changes all that can be changed, so that begin has something to undo. */
    private static PhaseConverter disturbed(int phases) {
        PhaseConverter x = Converters.begun(phases, 2, 20, 5, 1000, 10, 1);
        x.start();
        x.run(40);
        x.set(11, 30000);
        x.run(9);
        x.set(14, 7);
        return x;
    }

    private static void the512thCall() {
        PhaseConverter x = new PhaseConverter();
        x.start();
        Converters.runOften(x, 510, 1);
        PhaseConverter twin = new PhaseConverter();
        twin.start();
        Converters.runOften(twin, 3, 170);
        Check.same("the 512th call", x.digest(), twin.digest());
    }

    private static void phasesAreNumberedFrom0() {
        for (int n = 1; n <= 4; n++) {
            PhaseConverter x = Converters.begun(n);
            Check.same("phases", x.count(13), n);
            Check.same("the first phase", x.phase(0, 0), 0);
            Check.same("the last phase", x.phase(n - 1, 0), 0);
            int beyond = n;
            Check.refuses("phase(-1, 0) of " + n, x, Check.INDEX, () -> x.phase(-1, 0));
            Check.refuses("phase(" + n + ", 0) of " + n, x, Check.INDEX, () -> x.phase(beyond, 0));
        }
        Check.refuses("no phase at all", new PhaseConverter(), Check.ARGUMENT, () -> new PhaseConverter().begin(0));
        Check.refuses("a fifth phase", new PhaseConverter(), Check.ARGUMENT, () -> new PhaseConverter().begin(5));
    }

    private static void theFirstAreActive() {
        for (int n = 1; n <= 4; n++) {
            // Every fifth cycle is light for the fifth time.
            PhaseConverter x = Converters.shorted(n, 100);
            Converters.set(x, 5, 100, 11, 30000);
            x.start();
            for (int cycle = 1; cycle <= 24; cycle++) {
                int m = Math.max(1, n - cycle / 5);
                int[] before = new int[n];
                for (int p = 0; p < n; p++) {
                    before[p] = Converters.pulsesBegun(x, p);
                }
                x.run(1);
                Check.same("active of " + n + " in cycle " + cycle, x.count(3), m);
                for (int p = 0; p < n; p++) {
                    Check.same("pulses of phase " + p + " with " + m + " active",
                        Converters.pulsesBegun(x, p) - before[p], p < m ? 1 : 0);
                }
            }
        }
    }

    private static void currentIsNeverNegative() {
        // One slot makes 12000; the output, 12000 less the load, takes its part in the next slot.
        PhaseConverter x = Converters.highOutput(30000);
        x.start();
        x.run(1);
        Check.same("12000 less 12000", x.phase(0, 0), 0);
        // 20 at the beginning: 11980 is made, and 12000 taken away.
        PhaseConverter y = Converters.held(1, 20);
        Converters.set(y, 0, 12000, 8, 100);
        y.start();
        y.run(1);
        Check.same("slots on", y.phase(0, 3), 2 + 1);
        Check.same("mean current", y.count(5), 11980 / 20);
        Check.same("11980 less 12000", y.phase(0, 0), 0);
        // Off or on, with an output far above the input.
        PhaseConverter z = Converters.held(2, 30000);
        Converters.set(z, 0, 1000, 1, 12000, 9, 0, 6, 0, 7, 0, 13, 0);
        z.start();
        for (int i = 0; i < 10; i++) {
            z.run(1);
            Check.same("current of phase 0", z.phase(0, 0), 0);
            Check.same("current of phase 1", z.phase(1, 0), 0);
        }
        Check.yes("it was on", z.phase(0, 3) > 100);
    }

    private static void restIsBelow1000() {
        PhaseConverter x = Converters.shorted(1, 100);
        Converters.set(x, 0, 24000, 1, 500, 6, 0, 7, 0);
        x.start();
        // 1000 * 500 / 24000 = 20: 400 a cycle; 600 + 400 is just one slot, and no rest.
        int[] rests = {400, 800, 200, 600, 0, 400};
        int[] slots = {0, 0, 1, 1, 2, 2};
        for (int i = 0; i < rests.length; i++) {
            x.run(1);
            Check.phase("cycle " + (i + 1), x, 0, 240 * slots[i], 0, rests[i], slots[i], 0, 0, i + 1);
        }
        PhaseConverter y = Converters.begun(4, 2, 9000);
        y.start();
        for (int i = 0; i < 50; i++) {
            y.run(1);
            for (int p = 0; p < 4; p++) {
                int rest = y.phase(p, 2);
                int onTime = y.phase(p, 1);
                Check.yes("a rest from 0 to 999", rest >= 0 && rest <= 999);
                Check.yes("an on-time from 0 to 18", onTime >= 0 && onTime <= 18);
            }
        }
    }

    private static void voltageFrom0To40000() {
        PhaseConverter x = Converters.held(1, 40000);
        Check.same("the greatest", x.count(1), 40000);
        Check.same("24000 and 24000", x.record(1, 0), 40000);
        x.set(2, 1999);
        Check.same("40000 - 20 * 1999", x.run(1), 20);
        x.set(2, 1);
        Check.same("20 - 20 * 1", x.run(1), 0);
        Check.same("not below 0", x.run(1), 0);
        x.set(2, 60000);
        Check.same("nor by the greatest load", x.run(1), 0);
    }

    private static void targetAndIntegralAreKept() {
        PhaseConverter x = Converters.shorted(1, 100);
        x.start();
        x.run(2);
        Check.same("present target", x.count(2), 3300);
        Check.same("integral", x.count(6), 2000 + 3300);
        x.stop();
        x.run(3);
        Check.same("present target when off", x.count(2), 3300);
        Check.same("integral when off", x.count(6), 2000 + 3300);
    }

    private static void modes() {
        PhaseConverter x = new PhaseConverter();
        Check.same("off", x.count(0), 0);
        x.start();
        x.run(32);
        Check.same("ramping", x.count(0), 1);
        x.run(1);
        Check.same("regulating", x.count(0), 2);
        x.set(12, 500);
        x.run(1);
        Check.same("tripped by overvoltage", x.count(0), 3);
        x.set(13, 24000);
        x.start();
        x.run(1);
        Check.same("starved", x.count(0), 4);
        x.stop();
        Check.same("off again", x.count(0), 0);
    }

    private static void runsInModes1And2() {
        for (int mode = 0; mode <= 4; mode++) {
            PhaseConverter x = Converters.inMode(mode);
            Check.same("mode", x.count(0), mode);
            int begun = Converters.pulsesBegun(x, 0);
            int target = x.count(2);
            x.run(1);
            Check.same("a pulse in mode " + mode, Converters.pulsesBegun(x, 0) - begun,
                Converters.runsIn(mode) ? 1 : 0);
            Check.same("the target in mode " + mode, x.count(2), mode == 1 ? target + 100 : target);
            if (Converters.runsIn(mode)) {
                Check.refuses("start in mode " + mode, x, Check.STATE, x::start);
            } else {
                Check.same("start in mode " + mode, x.start(), x.count(1));
            }
        }
    }

    private static void all0AtFirstAndAfterBegin() {
        isFresh("a new object", new PhaseConverter(), 2, "");
        for (int phases = 1; phases <= 4; phases++) {
            PhaseConverter x = disturbed(5 - phases);
            x.begin(phases);
            isFresh("after begin(" + phases + ")", x, phases, "");
        }
        // With currents, and pulses that are on.
        PhaseConverter on = Converters.shorted(4, 100);
        on.start();
        on.run(1);
        Check.yes("a current", on.phase(3, 0) > 0);
        Check.yes("a pulse that is on", on.phase(3, 1) > 0);
        Check.yes("a mean current", on.count(5) > 0);
        on.begin(4);
        isFresh("after begin with currents", on, 4, "");
        // Nor do the hidden things come back in the cycles that follow.
        PhaseConverter used = disturbed(3);
        used.begin(4);
        PhaseConverter unused = Converters.begun(4);
        for (PhaseConverter each : new PhaseConverter[] {used, unused}) {
            each.set(2, 9000);
            each.run(2);
            each.start();
            each.run(30);
        }
        Check.same("a used converter after begin goes as a new one", used.digest(), unused.digest());
    }

    private static void aNewObjectHas2Phases() {
        PhaseConverter x = new PhaseConverter();
        Check.same("phases", x.count(13), 2);
        Check.same("active phases", x.count(3), 2);
        Check.same("phase(1, 0)", x.phase(1, 0), 0);
        Check.refuses("phase(2, 0)", x, Check.INDEX, () -> x.phase(2, 0));
    }

    private static void aNewObjectHasTheSettingsAsTold() {
        PhaseConverter x = new PhaseConverter();
        for (int i = 0; i < SettingsTest.SETTINGS; i++) {
            Check.same("setting(" + i + ")", x.setting(i), SettingsTest.AT_FIRST[i]);
        }
        // Objects share nothing.
        PhaseConverter other = new PhaseConverter();
        other.set(0, 5000);
        other.start();
        other.run(9);
        isFresh("beside another", x, 2, "");
        isFresh("after another", new PhaseConverter(), 2, "");
    }

    private static void aNewObjectHasAnEmptyBuffer() {
        PhaseConverter x = new PhaseConverter();
        Check.same("firstError", x.firstError(), 0);
        Check.same("the first character", x.append('s'), 1);
        Check.same("clearBuffer of another", new PhaseConverter().clearBuffer(), 0);
    }

    private static void beginSetsAllSettingsBack() {
        PhaseConverter x = new PhaseConverter();
        for (int i = 0; i < SettingsTest.SETTINGS; i++) {
            x.set(i, SettingsTest.LEAST[i]);
        }
        x.begin(2);
        for (int i = 0; i < SettingsTest.SETTINGS; i++) {
            Check.same("setting(" + i + ")", x.setting(i), SettingsTest.AT_FIRST[i]);
        }
    }

    private static void beginClearsAllCounts() {
        PhaseConverter x = disturbed(4);
        for (int what : new int[] {1, 4, 9, 10, 11, 12, 14}) {
            Check.yes("there is a count(" + what + ") to clear", x.count(what) > 0);
        }
        x.begin(4);
        Check.counts("after begin", x, 0, 0, 0, 4, 0, 0, 0, 0, 0, 0, 0, 0, 0, 4, 0);
        for (int p = 0; p < 4; p++) {
            Check.phase("after begin", x, p, 0, 0, 0, 0, 0, 0, 0);
        }
    }

    private static void beginForgetsTheRecords() {
        PhaseConverter x = disturbed(2);
        Check.same("records before", x.count(14), 16);
        x.begin(2);
        Check.same("records", x.count(14), 0);
        Check.refuses("record(0, 0)", x, Check.INDEX, () -> x.record(0, 0));
        Check.sameDouble("meanVoltage", x.meanVoltage(), 0.0);
        x.run(1);
        Check.same("records after a cycle", x.count(14), 1);
        Check.record("the only record", x, 0, 0, 0, 0, 2, 0, 0);
        Check.refuses("record(1, 0)", x, Check.INDEX, () -> x.record(1, 0));
    }

    private static void beginLeavesTheBuffer() {
        PhaseConverter x = new PhaseConverter();
        Converters.type(x, "s,?");
        x.begin(3);
        isFresh("after begin with a buffer", x, 3, "s,?");
        Check.same("firstError", x.firstError(), 2);
        Check.same("clearBuffer", x.clearBuffer(), 3);
        Converters.type(x, Converters.FULL_PROGRAM);
        x.begin(1);
        Check.same("a full buffer", x.digest(), freshDigest(1, Converters.FULL_PROGRAM));
    }

    private static void beginTakes1To4() {
        PhaseConverter x = new PhaseConverter();
        for (int phases = 1; phases <= 4; phases++) {
            x.begin(phases);
            Check.same("phases", x.count(13), phases);
            Check.same("active phases", x.count(3), phases);
            Check.same("the last phase", x.phase(phases - 1, 6), 0);
        }
    }

    private static void beginAnswersThePreviousNumber() {
        PhaseConverter x = new PhaseConverter();
        int previous = 2;
        for (int phases : new int[] {4, 4, 1, 3, 2}) {
            Check.same("begin(" + phases + ")", x.begin(phases), previous);
            previous = phases;
        }
        // It is the number of all phases, not of the active ones.
        PhaseConverter y = disturbed(4);
        Check.yes("some were shed", y.count(3) < 4);
        Check.same("begin after phases were shed", y.begin(4), 4);
    }

    private static void beginRefuses() {
        PhaseConverter x = Converters.running(2, 1000, 30);
        for (int phases : new int[] {0, 5, -1, 8, Integer.MIN_VALUE, Integer.MAX_VALUE}) {
            Check.refuses("begin(" + phases + ")", x, Check.ARGUMENT, () -> x.begin(phases));
        }
        Check.same("phases after refused begins", x.count(13), 2);
    }
}
