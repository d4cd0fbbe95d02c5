/** The terms of reckoning and "Cycles.", by cases worked out by hand. */
public final class CycleTest {
    public static void main(String[] args) {
        Check.run("CycleTest", sentences());
    }

    static Sentences sentences() {
        return new Sentences()
            .in("Terms")
            .holds("Everything is computed in integers; divisions are truncated toward 0.", CycleTest::truncation)
            .holds("To clamp a number to a range means to replace it by the nearest number of the range.",
                CycleTest::clamping)
            .holds("If the converter runs and the input voltage is less than the least input, it is stopped, "
                + "with the mode 4.", CycleTest::starved)
            .holds("If the mode is 1, the present target increases by the ramp step;", CycleTest::ramp)
            .holds("if it is at least the target voltage then, it becomes that, and the mode becomes 2.",
                CycleTest::rampEnds)
            .holds("If the mode was 2 before, the present target becomes the target voltage.",
                CycleTest::targetIsFollowed)
            .holds("If the converter runs: let e be the present target minus the output voltage.",
                CycleTest::errorIsTargetLessVoltage)
            .holds("The integral increases by e and is clamped to -100000 to 100000.", CycleTest::integralIsClamped)
            .holds("The duty becomes 1000 * (present target) / (input voltage) + e * (proportional gain) / 100 + "
                + "integral * (integral gain) / 10000,", CycleTest::dutyIsTheSumOfItsParts)
            .holds("clamped to 0 to 900.", CycleTest::dutyIsClamped)
            .holds("The slots 0 to 19 of the cycle take place, one after another.", CycleTest::twentySlots)
            .holds("The mean current of the cycle becomes (the sum of the currents of all phases at the ends of all "
                + "slots) / 20.", CycleTest::meanCurrent)
            .holds("The ripple becomes the greatest output voltage at the end of a slot minus the least one.",
                CycleTest::ripple)
            .holds("The cycle is recorded;", CycleTest::recorded)
            .holds("the latest 16 records are kept.", CycleTest::sixteenRecords);
    }

    private static void truncation() {
        // A load below the capacity takes nothing away: -499 / 500 is 0.
        PhaseConverter x = Converters.held(1, 40000);
        Converters.set(x, 4, 500, 2, 499);
        Check.same("-499 / 500", x.run(1), 40000);
        x.set(2, 999);
        Check.same("-999 / 500", x.run(1), 40000 - 20);
        truncationOfTheDuty();
        // (0 - 100 / 3) * 99 / 1000 = -33 * 99 / 1000 = -3: 53, and not 54.
        PhaseConverter y = threeOf100(99);
        y.run(1);
        Check.same("rest of phase 1", y.phase(1, 2), 20 * 53 - 1000);
        // (11999 - 12000) / 100 is 0: phase 1 keeps its 120 for 8 slots, and then 12000 / 100 are taken away.
        PhaseConverter z = Converters.steady(2);
        z.start();
        z.run(1);
        Check.phase("phase 1 is on", z, 1, 120, 8);
        z.set(0, 11999);
        z.run(1);
        Check.same("mean current", z.count(5), 8 * 120 / 20);
    }

    private static void truncationOfTheDuty() {
        PhaseConverter x = Converters.held(1, 12000);
        Converters.set(x, 1, 10101, 6, 1, 7, 1);
        x.start();
        // 1000 * 10101 / 24000 = 420, -1899 * 1 / 100 = -18, -1899 * 1 / 10000 = 0.
        x.run(1);
        Check.same("integral", x.count(6), -1899);
        Check.same("duty", x.count(7), 420 - 18);
        x.run(6);
        Check.same("integral", x.count(6), 7 * -1899);
        Check.same("duty with -13293 / 10000 = -1", x.count(7), 420 - 18 - 1);
    }

    /**
     * Duty 50 with three phases, at an output of 0: a slot makes 100. Phase 0 has 100 when phase 1
     * begins its pulse.
     */
    static PhaseConverter threeOf100(int balanceGain) {
        PhaseConverter x = Converters.shorted(3, 100);
        Converters.set(x, 0, 10000, 6, 0, 7, 0, 8, 500, 14, balanceGain);
        x.start();
        return x;
    }

    private static void clamping() {
        // The duty: 166 + 1000 + 4 is nearer to 900 than to 0; far above the target 0 is nearer.
        PhaseConverter x = Converters.shorted(1, 100);
        x.start();
        x.run(1);
        Check.same("duty", x.count(7), 900);
        PhaseConverter y = Converters.held(1, 30000);
        Converters.set(y, 1, 500);
        y.start();
        y.run(1);
        Check.same("duty", y.count(7), 0);
        // The integral: 29500 is taken away in each cycle, and 500 added where the output is 0.
        y.run(3);
        Check.same("integral", y.count(6), -100000);
        PhaseConverter z = Converters.shorted(1, 100);
        z.start();
        z.run(200);
        Check.same("integral", z.count(6), 100000);
        // The output voltage.
        PhaseConverter v = Converters.held(1, 40000);
        Check.same("voltage", v.record(1, 0), 40000);
        v.set(2, 60000);
        Check.same("voltage", v.run(1), 0);
    }

    private static void starved() {
        PhaseConverter x = Converters.begun(1, 13, 12000);
        x.start();
        x.run(1);
        Check.same("the least input is enough in the ramp", x.count(0), 1);
        x.run(60);
        Check.same("and afterwards", x.count(0), 2);
        int integral = x.count(6);
        int duty = x.count(7);
        int pulses = Converters.pulsesBegun(x, 0);
        x.set(13, 12001);
        Check.same("set alone stops nothing", x.count(0), 2);
        x.set(1, 5000);
        x.run(1);
        Check.same("one less is not", x.count(0), 4);
        Check.same("it is stopped before the target moves", x.count(2), 3300);
        Check.same("and before the integral", x.count(6), integral);
        Check.same("and before the duty", x.count(7), duty);
        Check.same("no pulse begins", Converters.pulsesBegun(x, 0), pulses);
        Check.same("the record tells it", x.record(0, 4), 4);
        PhaseConverter y = Converters.begun(2, 0, 4000);
        y.start();
        y.run(1);
        y.set(0, 3999);
        y.run(1);
        Check.counts("in the ramp", y, 4, 0, 100);
        // The input counts only while it runs.
        y.stop();
        y.run(1);
        Check.same("off is not starved", y.count(0), 0);
        PhaseConverter z = Converters.inMode(3);
        z.set(13, 24000);
        z.run(1);
        Check.same("tripped is not starved", z.count(0), 3);
        PhaseConverter first = Converters.begun(2, 13, 12001);
        first.start();
        first.run(1);
        Check.counts("starved in the first cycle", first, 4, 0, 0, 2, 1, 0, 0, 0, 0, 0, 0, 0, 0, 2, 1);
    }

    private static void ramp() {
        PhaseConverter x = Converters.begun(1, 8, 1);
        x.start();
        for (int i = 1; i <= 5; i++) {
            x.run(1);
            Check.counts("the least step", x, 1, 0, i);
        }
        PhaseConverter y = Converters.shorted(1, 100);
        y.set(1, 12000);
        y.start();
        for (int i = 1; i <= 5; i++) {
            y.run(1);
            Check.counts("the greatest step", y, 1, 0, 2000 * i);
        }
        y.set(8, 7);
        y.run(1);
        Check.counts("another step", y, 1, 0, 10007);
        y.stop();
        y.run(1);
        Check.counts("no step when off", y, 0, 0, 10007);
    }

    private static void rampEnds() {
        int[][] ends = {{2001, 2000, 1}, {2000, 2000, 2}, {1999, 1999, 2}, {500, 500, 2}};
        for (int[] end : ends) {
            PhaseConverter x = Converters.shorted(1, 100);
            Converters.set(x, 1, end[0]);
            x.start();
            x.run(1);
            Check.counts("a step of 2000 to " + end[0], x, end[2], 0, end[1]);
            x.run(1);
            Check.counts("another one", x, 2, 0, end[0]);
        }
        PhaseConverter y = new PhaseConverter();
        y.start();
        y.run(10);
        y.set(1, 600);
        y.run(1);
        Check.counts("the target lowered in the ramp", y, 2, y.count(1), 600);
        PhaseConverter z = Converters.held(1, 30000);
        Converters.set(z, 1, 12000);
        z.start();
        z.run(1);
        Check.counts("from above the target", z, 2, 30000, 12000);
    }

    private static void targetIsFollowed() {
        PhaseConverter x = Converters.shorted(1, 100);
        x.start();
        x.run(2);
        Check.counts("regulating", x, 2, 0, 3300);
        x.set(1, 12000);
        Check.same("set alone leaves the present target", x.count(2), 3300);
        x.run(1);
        Check.counts("raised at once, not by steps", x, 2, 0, 12000);
        x.set(1, 500);
        x.run(1);
        Check.counts("lowered at once", x, 2, 0, 500);
        x.stop();
        x.set(1, 900);
        x.run(1);
        Check.counts("not when off", x, 0, 0, 500);
        x.start();
        Converters.set(x, 8, 1, 13, 24000);
        x.run(1);
        Check.counts("not when starved", x, 4, 0, 0);
    }

    private static void errorIsTargetLessVoltage() {
        // The target of this cycle, after its step.
        PhaseConverter x = Converters.held(1, 3300);
        Converters.set(x, 1, 12000, 3, 100, 4, 500, 8, 70);
        x.start();
        x.run(1);
        Check.same("3370 - 3300", x.count(6), 70);
        PhaseConverter y = Converters.held(1, 30000);
        Converters.set(y, 1, 12000);
        y.start();
        y.run(1);
        Check.same("12000 - 30000", y.count(6), -18000);
        y.stop();
        y.run(1);
        Check.same("not when off", y.count(6), -18000);
        PhaseConverter z = Converters.inMode(3);
        z.run(1);
        Check.same("not when tripped", z.count(6), 100);
    }

    private static void integralIsClamped() {
        PhaseConverter x = Converters.shorted(1, 100);
        x.set(1, 12000);
        x.start();
        int[] due = {2000, 6000, 12000, 20000, 30000, 42000, 54000, 66000, 78000, 90000};
        for (int value : due) {
            x.run(1);
            Check.same("integral", x.count(6), value);
        }
        cycleWithTarget(x, 9999, 99999);
        cycleWithTarget(x, 500, 100000);
        cycleWithTarget(x, 12000, 100000);
        PhaseConverter y = Converters.held(1, 12000);
        y.set(1, 500);
        y.start();
        y.run(8);
        Check.same("8 * -11500", y.count(6), -92000);
        cycleWithTarget(y, 4001, -99999);
        cycleWithTarget(y, 11999, -100000);
        cycleWithTarget(y, 11999, -100000);
        cycleWithTarget(y, 500, -100000);
        // It leaves the bound at once: what was clamped away is not kept.
        y.set(2, 60000);
        y.run(1);
        Check.same("the output is 0", y.count(1), 0);
        cycleWithTarget(y, 500, -99500);
    }

    private static void cycleWithTarget(PhaseConverter x, int target, int integral) {
        x.set(1, target);
        x.run(1);
        Check.same("integral with the target " + target, x.count(6), integral);
    }

    private static void dutyIsTheSumOfItsParts() {
        PhaseConverter x = Converters.shorted(1, 100);
        Converters.set(x, 1, 1199, 6, 0, 7, 0);
        x.start();
        x.run(1);
        Check.same("1000 * 1199 / 12000", x.count(7), 99);
        x.set(6, 1);
        x.run(1);
        Check.same("99 and 1199 / 100", x.count(7), 99 + 11);
        Converters.set(x, 6, 50, 7, 1);
        x.run(18);
        Check.same("integral", x.count(6), 20 * 1199);
        Check.same("99, 1199 * 50 / 100 and 23980 / 10000", x.count(7), 99 + 599 + 2);
        Converters.set(x, 6, 0, 7, 21);
        x.run(1);
        Check.same("99 and 25179 * 21 / 10000", x.count(7), 99 + 52);
        x.set(0, 24000);
        x.run(1);
        Check.same("1000 * 1199 / 24000 and 26378 * 21 / 10000", x.count(7), 49 + 55);
        // 83, and -9999 / 10000, which is 0.
        PhaseConverter z = Converters.held(1, 12000);
        Converters.set(z, 1, 2001, 6, 0, 7, 1);
        z.start();
        z.run(1);
        Check.same("integral", z.count(6), -9999);
        Check.same("83 + 0", z.count(7), 83);
        z.run(1);
        Check.same("83 and -19998 / 10000", z.count(7), 83 - 1);
        // The target of the ramp, not the one to come.
        PhaseConverter y = Converters.begun(1);
        y.start();
        y.run(1);
        Check.same("8 + 50 + 0", y.count(7), 58);
    }

    private static void dutyIsClamped() {
        PhaseConverter x = Converters.shorted(1, 100);
        Converters.set(x, 1, 12000, 6, 0, 7, 0);
        x.start();
        x.run(6);
        int[][] upper = {{10799, 899}, {10800, 900}, {10812, 900}, {12000, 900}};
        for (int[] each : upper) {
            x.set(1, each[0]);
            x.run(1);
            Check.same("duty with the target " + each[0], x.count(7), each[1]);
        }
        // 1000 * 11880 / 24000 = 495, and -120 times the gain.
        PhaseConverter y = Converters.held(1, 12000);
        Converters.set(y, 1, 11880, 7, 0);
        y.start();
        int[][] lower = {{412, 1}, {413, 0}, {414, 0}, {500, 0}};
        for (int[] each : lower) {
            y.set(6, each[0]);
            y.run(1);
            Check.same("duty with the gain " + each[0], y.count(7), each[1]);
        }
    }

    private static void twentySlots() {
        PhaseConverter x = Converters.held(1, 40000);
        x.set(2, 1);
        Check.same("a slot takes 1", x.run(1), 40000 - 20);
        // Phase 0 begins its pulse of 18 slots in slot 0, phase 1 in slot 10: 10 slots are left.
        PhaseConverter y = Converters.shorted(2, 100);
        y.start();
        y.run(1);
        Check.phase("phase 0", y, 0, 18 * 120, 0, 0, 18, 0, 0, 1);
        Check.phase("phase 1", y, 1, 10 * 120, 8, 0, 10, 0, 0, 1);
        y.run(1);
        Check.same("phase 1 goes on in slot 0", y.phase(1, 3), 10 + 8 + 10);
    }

    private static void meanCurrent() {
        // 10, 20 and then 30 in 18 slots, by three slots on: 570 / 20.
        PhaseConverter x = Converters.shorted(1, 100);
        Converters.set(x, 0, 1000, 1, 500, 6, 0, 7, 0, 8, 150, 13, 0);
        x.start();
        x.run(1);
        Check.phase("three slots", x, 0, 30, 0, 0, 3);
        Check.same("570 / 20", x.count(5), 28);
        // All phases count, whether they are active or not.
        PhaseConverter y = Converters.shorted(2, 1);
        y.set(11, 30000);
        y.start();
        y.run(5);
        Check.same("phase 1 was shed", y.count(3), 1);
        Check.same("both count", y.count(5), 24000);
        y.stop();
        y.run(1);
        Check.same("when off too", y.count(5), 24000);
        // One slot on makes 12000 at the slots 0, 6 and 13: 20 + 14 + 7 slots of 12000.
        PhaseConverter z = Converters.shorted(3, 1);
        z.start();
        z.run(1);
        Check.same("three phases", z.count(5), 41 * 600);
        Check.same("no current", Converters.held(1, 40000).count(5), 0);
        // 11 to 198 in 18 slots, and 78 and 0: 1959 / 20.
        PhaseConverter w = Converters.steady(1);
        w.set(0, 13100);
        w.start();
        w.run(1);
        Check.same("1959 / 20", w.count(5), 97);
    }

    private static void ripple() {
        // At the ends of the slots 39900 to 38000: the 40000 at the beginning do not count.
        PhaseConverter x = Converters.held(1, 40000);
        x.set(2, 100);
        x.run(1);
        Check.same("falling", x.count(8), 1900);
        x.set(2, 0);
        x.run(1);
        Check.same("standing", x.count(8), 0);
        PhaseConverter y = Converters.highOutput(30000);
        y.start();
        y.run(1);
        Check.same("12000 at the ends of all slots", y.count(8), 0);
        // 24000 at the end of slot 0, 40000 afterwards.
        PhaseConverter z = Converters.held(1, 0);
        z.start();
        z.run(1);
        Check.same("rising", z.count(8), 16000);
    }

    private static void recorded() {
        PhaseConverter x = Converters.held(1, 40000);
        x.set(2, 100);
        x.run(1);
        Check.same("records", x.count(14), 3);
        Check.record("off", x, 0, 38000, 0, 1900, 1, 0, 0);
        PhaseConverter y = Converters.shorted(2, 1);
        y.start();
        y.run(1);
        Check.record("running", y, 0, 0, 600 * 30, 0, 2, 1, 2);
        PhaseConverter z = Converters.begun(3, 13, 24000);
        z.start();
        z.run(1);
        Check.record("starved", z, 0, 0, 0, 0, 3, 4, 0);
    }

    private static void sixteenRecords() {
        // The two cycles of held, and then 20 less in each.
        PhaseConverter x = Converters.held(1, 40000);
        x.set(2, 1);
        for (int i = 3; i <= 40; i++) {
            x.run(1);
            int kept = Math.min(i, 16);
            Check.same("records after " + i, x.count(14), kept);
            Check.same("the latest", x.record(0, 0), 40000 - 20 * (i - 2));
            Check.same("the oldest", x.record(kept - 1, 0), 40000 - 20 * Math.max(0, i - kept - 1));
        }
        Check.refuses("record(16, 0)", x, Check.INDEX, () -> x.record(16, 0));
        for (int i = 0; i < 16; i++) {
            Check.same("record(" + i + ", 0)", x.record(i, 0), 40000 - 20 * (38 - i));
        }
        x.run(200);
        Check.same("records after many", x.count(14), 16);
        Check.same("the oldest", x.record(15, 0), 40000 - 20 * (238 - 15));
    }
}
