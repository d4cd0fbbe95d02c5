/** The terms "Slots.", by cases worked out by hand. */
public final class SlotTest {
    public static void main(String[] args) {
        Check.run("SlotTest", sentences());
    }

    static Sentences sentences() {
        return new Sentences()
            .in("Terms")
            .holds("For each phase p in ascending order that is active, if the converter runs and s is equal to "
                + "20 * p / m: the phase begins a pulse.", SlotTest::pulsesBegin)
            .holds("If the output voltage is at least the present target,", SlotTest::atTheTarget)
            .holds("and either the mode is 1 or the mean current of the cycle before is less than the skip level,",
                SlotTest::rampOrSkipLevel)
            .holds("the pulse is skipped: the remaining on-time becomes 0.", SlotTest::skipping)
            .holds("Otherwise let b be the duty minus ((current of the phase) - (sum of the currents of the active "
                + "phases) / m) * (balance gain) / 1000,", SlotTest::balance)
            .holds("clamped to 0 to 900.", SlotTest::balanceIsClamped)
            .holds("The rest of the phase increases by 20 * b;", SlotTest::restIncreases)
            .holds("the remaining on-time becomes rest / 1000 (it can be 0), and the rest becomes rest modulo 1000.",
                SlotTest::onTime)
            .holds("(The rest may be up to 18999 in between.)", SlotTest::greatestRest)
            .holds("For each phase in ascending order: if its remaining on-time is above 0 and its current is at least "
                + "the current limit, its remaining on-time becomes 0 (this is a limit event).", SlotTest::limit)
            .holds("If its remaining on-time is above 0, it decreases by 1, and the current increases by "
                + "(input voltage - output voltage) / inductance;", SlotTest::rise)
            .holds("otherwise the current decreases by (output voltage) / inductance.", SlotTest::fall)
            .holds("A current below 0 becomes 0.", SlotTest::currentBelow0)
            .holds("(The output voltage is the one at the beginning of the slot.)", SlotTest::voltageOfTheBeginning)
            .holds("The output voltage increases by ((sum of the currents of all phases) - (load current)) / capacity,",
                SlotTest::voltage)
            .holds("and is clamped to 0 to 40000.", SlotTest::voltageIsClamped)
            .holds("If the converter runs and the output voltage is greater than the overvoltage, it is stopped, "
                + "with the mode 3", SlotTest::overvoltage)
            .holds("(the other slots of the cycle take place all the same).", SlotTest::otherSlots);
    }

    private static void pulsesBegin() {
        // A pulse of 18 slots that begins in slot s has s - 2 left at the end of the cycle.
        int[][] left = {{}, {0}, {0, 8}, {0, 4, 11}, {0, 3, 8, 13}};
        for (int n = 1; n <= 4; n++) {
            PhaseConverter x = Converters.steady(n);
            x.set(11, 30000);
            x.start();
            for (int cycle = 1; cycle <= 20; cycle++) {
                x.run(1);
                int m = Math.max(1, n - cycle / 5);
                for (int p = 0; p < n; p++) {
                    Check.same("phase " + p + " of " + n + " with " + m + " active in cycle " + cycle, x.phase(p, 1),
                        p < m ? left[m][p] : 0);
                }
            }
        }
        // Phase 0 trips it in slot 1, before the others have begun.
        PhaseConverter y = Converters.held(4, 0);
        y.start();
        y.run(1);
        Check.same("tripped", y.count(0), 3);
        Check.same("phase 0 has begun one more", y.phase(0, 6), 2);
        for (int p = 1; p < 4; p++) {
            Check.same("phase " + p + " has not", Converters.pulsesBegun(y, p), 0);
        }
        y.stop();
        y.run(5);
        Check.same("none begins when off", Converters.pulsesBegun(y, 0), 2);
    }

    /** Regulating at this output with this target; without a current. */
    private static PhaseConverter regulatingAt(int voltage, int target) {
        PhaseConverter x = Converters.held(1, voltage);
        Converters.set(x, 1, target, 6, 0, 7, 0);
        x.start();
        return x;
    }

    private static void skipsIn(String when, PhaseConverter x, int skipped) {
        int skippedBefore = x.phase(0, 5);
        int pulsesBefore = x.phase(0, 6);
        x.run(1);
        Check.same(when + ": skipped", x.phase(0, 5) - skippedBefore, skipped);
        Check.same(when + ": not skipped", x.phase(0, 6) - pulsesBefore, 1 - skipped);
    }

    private static void atTheTarget() {
        skipsIn("11980 with a target of 11980", regulatingAt(11980, 11980), 1);
        skipsIn("11980 with a target of 11981", regulatingAt(11980, 11981), 0);
        skipsIn("11980 with a target of 11979", regulatingAt(11980, 11979), 1);
        // In the ramp the output is above the present target from the second cycle on.
        PhaseConverter x = Converters.highOutput(30000);
        Converters.set(x, 1, 12000, 8, 2000);
        x.start();
        skipsIn("0 with a present target of 2000", x, 0);
        for (int target = 4000; target <= 10000; target += 2000) {
            skipsIn("ramping with " + target, x, 1);
        }
        skipsIn("at the end of the ramp", x, 1);
        // The voltage of the slot counts: when phase 1 begins, the output is above the target.
        PhaseConverter y = Converters.begun(2, 2, 0, 3, 1, 4, 1, 12, 30000);
        y.start();
        y.run(1);
        Check.phase("phase 0", y, 0, 0, 0, 160, 1, 0, 0, 1);
        Check.phase("phase 1", y, 1, 0, 0, 0, 0, 0, 1, 0);
    }

    private static void rampOrSkipLevel() {
        // The mean current of the first cycle is 12000 / 20 = 600; it regulates in its first cycle.
        int[][] levels = {{600, 0}, {601, 1}, {599, 0}, {0, 0}, {10000, 1}};
        for (int[] level : levels) {
            PhaseConverter x = Converters.highOutput(30000);
            Converters.set(x, 1, 500, 8, 500, 9, level[0]);
            x.start();
            x.run(1);
            Check.counts("regulating", x, 2, 12000, 500, 1, 1, 600);
            skipsIn("600 with a skip level of " + level[0], x, level[1]);
        }
        // No mean current is below a level of 0.
        PhaseConverter y = regulatingAt(12000, 500);
        y.set(9, 0);
        skipsIn("0 with a skip level of 0", y, 0);
        y.set(9, 1);
        skipsIn("0 with a skip level of 1", y, 1);
        // In the ramp the level does not matter.
        PhaseConverter z = Converters.highOutput(30000);
        z.set(9, 0);
        z.start();
        z.run(1);
        Check.counts("ramping", z, 1, 12000, 100, 1, 1, 600);
        skipsIn("600 in the ramp", z, 1);
        skipsIn("0 in the ramp", z, 1);
        z.run(29);
        Check.counts("the last cycle of the ramp", z, 1, 12000, 3200, 1, 32, 0);
        skipsIn("in the cycle in which the ramp ends", z, 0);
    }

    /** Phase 1 is on when it begins a pulse anew, as with three phases it does so in slot 6. */
    private static PhaseConverter beforeAnEarlierPulse() {
        PhaseConverter x = Converters.steady(3);
        x.set(11, 30000);
        x.start();
        x.run(5);
        Converters.set(x, 10, 1, 11, 0);
        x.run(2);
        Check.same("active phases", x.count(3), 2);
        Check.same("phase 1 is on", x.phase(1, 1), 8);
        return x;
    }

    private static void skipping() {
        PhaseConverter x = beforeAnEarlierPulse();
        int slots = x.phase(1, 3);
        x.set(9, 10000);
        x.run(1);
        Check.same("active phases", x.count(3), 3);
        Check.same("skipped", x.phase(1, 5), 1);
        Check.same("the remaining on-time", x.phase(1, 1), 0);
        Check.same("it was on in the slots 0 to 5", x.phase(1, 3), slots + 6);
        Check.same("three were skipped", x.count(10), 3);
        // The rest stays, and a skipped pulse is not one that was not.
        PhaseConverter y = Converters.highOutput(30000);
        y.start();
        y.run(1);
        Check.phase("a pulse of one slot", y, 0, 0, 0, 160, 1, 0, 0, 1);
        y.run(3);
        Check.phase("three skipped ones", y, 0, 0, 0, 160, 1, 0, 3, 1);
    }

    private static void balance() {
        // Duty 50. Phase 1: 50 + 100 / 3 = 83. Phase 2: 50 + 200 / 3 = 116.
        PhaseConverter x = CycleTest.threeOf100(1000);
        x.run(1);
        Check.phase("phase 0", x, 0, 100, 0, 0, 1, 0, 0, 1);
        Check.phase("phase 1", x, 1, 100, 0, 660, 1, 0, 0, 1);
        Check.phase("phase 2", x, 2, 200, 0, 320, 2, 0, 0, 1);
        // Phase 0 is at 100 and the mean at 133: 100 + 33 is 2660, and so it has 300 of 500 before phase 1.
        x.run(1);
        Check.same("duty", x.count(7), 100);
        Check.phase("phase 0", x, 0, 300, 0, 660, 3, 0, 0, 2);
        // Phase 1: 100 + (600 / 3 - 100) = 200 is 4000 + 660. Phase 2: 100 + (1000 / 3 - 200) is 4660 + 320.
        Check.phase("phase 1", x, 1, 500, 0, 660, 5, 0, 0, 2);
        Check.phase("phase 2", x, 2, 600, 0, 980, 6, 0, 0, 2);
        // Without a gain all get the duty, 150.
        x.set(14, 0);
        x.run(1);
        Check.phase("phase 0", x, 0, 600, 0, 660, 6, 0, 0, 3);
        Check.phase("phase 1", x, 1, 800, 0, 660, 8, 0, 0, 3);
        Check.phase("phase 2", x, 2, 900, 0, 980, 9, 0, 0, 3);
        // A phase that is not active does not count: the only active one is at the mean.
        PhaseConverter y = Converters.shorted(2, 100);
        Converters.set(y, 5, 30000, 11, 30000, 14, 1000);
        y.start();
        y.run(5);
        Check.same("active phases", y.count(3), 1);
        Check.yes("the other has less", y.phase(1, 0) < y.phase(0, 0));
        int slots = y.phase(0, 3);
        y.run(1);
        Check.same("18 slots", y.phase(0, 3), slots + 18);
        // 275 thousandths, no more and no less.
        Converters.set(y, 6, 0, 7, 0);
        int rest = y.phase(0, 2);
        slots = y.phase(0, 3);
        y.run(1);
        Check.same("duty", y.count(7), 275);
        Check.same("slots on", y.phase(0, 3) - slots, (rest + 5500) / 1000);
        Check.same("rest", y.phase(0, 2), (rest + 5500) % 1000);
        // 33 * 909 / 1000 = 29: 79 thousandths.
        PhaseConverter z = CycleTest.threeOf100(909);
        z.run(1);
        Check.same("rest of phase 1", z.phase(1, 2), 20 * 79 - 1000);
    }

    private static void balanceIsClamped() {
        // Duty 166 + 2000 * gain / 10000. Phase 1 is 12000 / 2 below the mean: 6000 * 122 / 1000 = 732 more.
        int[][] upper = {{5, 980}, {10, 0}, {15, 0}, {50, 0}};
        for (int[] each : upper) {
            PhaseConverter x = Converters.shorted(2, 1);
            Converters.set(x, 6, 0, 7, each[0], 14, 122);
            x.start();
            x.run(1);
            Check.same("duty", x.count(7), 166 + each[0] / 5);
            Check.same("rest with the duty " + x.count(7), x.phase(1, 2), each[1]);
        }
        // Phase 0 has 2160, phase 1 has 1200: 480 above the mean.
        int[][] lower = {{3848, 481, 20}, {3840, 480, 0}, {3832, 479, 0}, {500, 62, 0}};
        for (int[] each : lower) {
            PhaseConverter x = Converters.shorted(2, 100);
            Converters.set(x, 6, 500, 14, 1000);
            x.start();
            x.run(1);
            Converters.set(x, 0, 8000, 1, each[0], 6, 0, 7, 0);
            x.run(1);
            Check.same("duty", x.count(7), each[1]);
            Check.phase("with the duty " + each[1], x, 0, 2160, 0, each[2], 18, 0, 0, 2);
        }
    }

    /** At an output of 0, with the gains 0: the duty is the target's part of the input voltage. */
    private static PhaseConverter byFeedforward(int rampStep) {
        PhaseConverter x = Converters.shorted(1, 100);
        Converters.set(x, 6, 0, 7, 0, 8, rampStep);
        x.start();
        return x;
    }

    private static void restIncreases() {
        PhaseConverter x = byFeedforward(100);
        // 8, 16 and 25 thousandths of 20 slots.
        int[] rests = {160, 480, 980};
        for (int rest : rests) {
            x.run(1);
            Check.same("rest", x.phase(0, 2), rest);
        }
        // With phases that are skipped it does not.
        PhaseConverter y = regulatingAt(12000, 11880);
        y.run(3);
        Check.phase("skipped", y, 0, 0, 0, 0, 2, 0, 3, 1);
    }

    private static void onTime() {
        PhaseConverter x = byFeedforward(100);
        // 160, 480 and 980 are no slot; with 33 it is 1640.
        int[] rests = {160, 480, 980, 640};
        for (int i = 0; i < rests.length; i++) {
            x.run(1);
            Check.phase("short pulses", x, 0, i == 3 ? 120 : 0, 0, rests[i], i == 3 ? 1 : 0, 0, 0, i + 1);
        }
        // 166: 3320 is 3 slots and 320. 275: 5500 and 320 is 5 slots and 820, then 6 slots and 320.
        PhaseConverter y = byFeedforward(2000);
        int[] slots = {3, 8, 14};
        int[] restsOfY = {320, 820, 320};
        for (int i = 0; i < 3; i++) {
            y.run(1);
            Check.phase("pulses", y, 0, slots[i] * 120, 0, restsOfY[i], slots[i], 0, 0, i + 1);
        }
        // 20 * 50 is just one slot.
        PhaseConverter z = CycleTest.threeOf100(0);
        z.run(1);
        Check.phase("1000", z, 0, 100, 0, 0, 1, 0, 0, 1);
        // What is left of the pulse before is not added: 6 slots of it, then 14 of the new one's 18.
        PhaseConverter w = beforeAnEarlierPulse();
        int before = w.phase(1, 3);
        w.run(1);
        Check.same("active phases", w.count(3), 3);
        Check.same("slots on", w.phase(1, 3), before + 20);
        Check.same("the remaining on-time", w.phase(1, 1), 4);
    }

    private static void greatestRest() {
        PhaseConverter x = byFeedforward(100);
        x.run(3);
        Check.same("rest", x.phase(0, 2), 980);
        // 980 + 18000 in between.
        x.set(6, 500);
        x.run(1);
        Check.same("duty", x.count(7), 900);
        Check.phase("18980", x, 0, 18 * 120, 0, 980, 18, 0, 0, 4);
        x.run(1);
        Check.phase("18980 again", x, 0, 36 * 120, 0, 980, 36, 0, 0, 5);
    }

    private static void limit() {
        PhaseConverter x = Converters.shorted(1, 1);
        x.set(5, 12000);
        x.start();
        x.run(1);
        Check.phase("at the limit", x, 0, 12000, 0, 0, 1, 1, 0, 1);
        x.run(1);
        Check.phase("at the limit from the beginning", x, 0, 12000, 0, 0, 1, 2, 0, 2);
        Check.same("limit events", x.count(9), 2);
        PhaseConverter y = Converters.shorted(1, 1);
        y.set(5, 12001);
        y.start();
        y.run(1);
        Check.phase("one below the limit", y, 0, 24000, 0, 0, 2, 1, 0, 1);
        // 3 slots, of which the limit takes the last; then 5 slots, all lost at the first.
        PhaseConverter z = byFeedforward(2000);
        z.set(5, 240);
        z.run(1);
        Check.phase("with one slot left", z, 0, 240, 0, 320, 2, 1, 0, 1);
        z.run(1);
        Check.phase("with all slots left", z, 0, 240, 0, 820, 2, 2, 0, 2);
        // No slot left: no event, though the current is at the limit.
        PhaseConverter w = byFeedforward(2000);
        w.set(5, 360);
        w.run(1);
        Check.phase("with no slot left", w, 0, 360, 0, 320, 3, 0, 0, 1);
        w.stop();
        w.run(5);
        Check.same("off", w.count(9), 0);
        limitOfEachPhase();
    }

    private static void limitOfEachPhase() {
        PhaseConverter x = Converters.shorted(2, 100);
        x.start();
        x.run(1);
        Check.phase("a pulse over the end of a cycle", x, 1, 10 * 120, 8, 0, 10, 0, 0, 1);
        x.set(5, 1200);
        x.run(1);
        // Phase 0 has 480 above the mean: 900 - 48 = 852, 17040.
        Check.phase("phase 0 is above the limit", x, 0, 18 * 120, 0, 40, 18, 1, 0, 2);
        Check.phase("phase 1 meets it with both pulses", x, 1, 1200, 0, 0, 10, 2, 0, 2);
        Check.same("limit events of the cycle", x.record(0, 5), 3);
        Check.same("limit events before", x.record(1, 5), 0);
        Check.same("limit events", x.count(9), 3);
    }

    private static void rise() {
        // 12000 / 7 = 1714, in 3 slots.
        PhaseConverter x = Converters.shorted(1, 7);
        Converters.set(x, 5, 30000, 6, 0, 7, 0);
        x.start();
        x.run(1);
        Check.phase("12000 / 7", x, 0, 3 * 1714, 0, 320, 3);
        // (13200 - 12000) / 100, in 18 slots, of which phase 1 has 10.
        PhaseConverter y = Converters.steady(2);
        y.start();
        y.run(1);
        Check.phase("1200 / 100", y, 1, 10 * 12, 8, 0, 10);
        // (11000 - 12000) / 100 takes 10 away in each of 8 slots: 110 to 40, then 12000 / 100 are taken.
        y.set(0, 11000);
        y.run(1);
        Check.same("mean current", y.count(5), (110 + 40) * 8 / 2 / 20);
        Check.same("slots on", y.phase(1, 3), 10 + 8 + 10);
    }

    private static void fall() {
        // Phase 0 has 216 after 18 slots: 96 and 0 in the two that are left.
        PhaseConverter x = Converters.steady(1);
        x.start();
        x.run(1);
        Check.same("mean current", x.count(5), (12 * 18 * 19 / 2 + 96) / 20);
        Check.same("current", x.phase(0, 0), 0);
        // 207 and 414 in two slots, and then 3300 / 100 less in each: 381 to 18, and 0.
        PhaseConverter y = Converters.held(1, 3300);
        Converters.set(y, 1, 12000, 3, 100, 4, 500, 6, 0, 7, 0, 8, 100);
        y.start();
        y.run(1);
        Check.same("slots on", y.phase(0, 3), 2 + 2);
        Check.same("mean current", y.count(5), (207 + 414 + (381 + 18) * 12 / 2) / 20);
        Check.same("the output stays", y.count(1), 3300);
        // Off, all phases fall, each from its own current: 12000 and 12000 at 480 a slot and more.
        PhaseConverter z = Converters.shorted(2, 1);
        z.start();
        z.run(2);
        z.stop();
        Converters.set(z, 2, 24000, 3, 100, 4, 500);
        z.run(1);
        Check.same("an output of 0 takes nothing", z.phase(0, 0) + z.phase(1, 0), 24000);
        z.set(2, 0);
        // 24000 / 500 = 48 at the end of slot 0; in slot 1 nothing is taken, as 48 / 100 is 0.
        int voltage = 0;
        int current = 12000;
        for (int slot = 0; slot < 20; slot++) {
            current -= voltage / 100;
            voltage += 2 * current / 500;
        }
        z.run(1);
        Check.same("current of phase 0", z.phase(0, 0), current);
        Check.same("current of phase 1", z.phase(1, 0), current);
        Check.same("voltage", z.count(1), voltage);
    }

    private static void currentBelow0() {
        // One slot on makes 12000, or 12000 less what there is; in slot 1 the output is taken away.
        PhaseConverter x = Converters.highOutput(30000);
        x.set(2, 1);
        x.start();
        x.run(1);
        // 12000 - 11999 = 1, and then the output is still 11999.
        Check.same("1 in slot 1", x.count(5), (12000 + 1) / 20);
        Check.same("the output falls by 1 in 18 slots", x.count(1), 12000 - 1 - 18);
        PhaseConverter y = Converters.held(1, 20);
        Converters.set(y, 0, 12000, 8, 100);
        y.start();
        y.run(1);
        Check.same("11980 - 12000", y.phase(0, 0), 0);
        Check.same("mean current", y.count(5), 11980 / 20);
        Check.same("nothing is taken from the output", y.count(1), 12000);
        // 11980 - 11981: just below 0. If it stayed there, the sum would be 11979.
        PhaseConverter w = Converters.held(1, 20);
        Converters.set(w, 0, 12000, 2, 19, 8, 100);
        w.start();
        w.run(1);
        Check.same("mean current", w.count(5), 599);
        // On, with an input below the output.
        PhaseConverter z = Converters.steady(1);
        z.set(0, 1000);
        z.set(13, 0);
        z.start();
        z.run(2);
        Check.phase("on without a current", z, 0, 0, 0, 0, 2 + 36, 0, 0, 3);
        Check.same("the output stays", z.count(1), 12000);
    }

    private static void voltageOfTheBeginning() {
        // Phase 0 is on in the slots 0 to 17, phase 1 in the slots 10 to 19.
        PhaseConverter x = Converters.begun(2, 0, 24000, 1, 12000, 2, 0, 3, 100, 4, 10, 5, 30000, 6, 500);
        Converters.set(x, 8, 2000, 12, 30000, 14, 0);
        x.start();
        x.run(1);
        int voltage = 0;
        int[] currents = new int[2];
        for (int slot = 0; slot < 20; slot++) {
            int up = (24000 - voltage) / 100;
            int down = voltage / 100;
            currents[0] = Math.max(0, currents[0] + (slot < 18 ? up : -down));
            currents[1] = Math.max(0, currents[1] + (slot >= 10 ? up : -down));
            voltage += (currents[0] + currents[1]) / 10;
        }
        Check.same("current of phase 0", x.phase(0, 0), currents[0]);
        Check.same("current of phase 1", x.phase(1, 0), currents[1]);
        Check.same("voltage", x.count(1), voltage);
        // All phases see the same voltage: in slot 0 both rise by 240, though phase 0 moves the output.
        PhaseConverter y = Converters.held(2, 0);
        Converters.set(y, 1, 12000, 2, 60000, 3, 100, 6, 500, 14, 0);
        y.start();
        y.run(1);
        Check.phase("phase 0", y, 0, 18 * 240, 0);
        Check.phase("phase 1 is on", y, 1, 10 * 240, 8);
        y.set(2, 0);
        y.set(12, 500);
        y.run(1);
        // 4560 and 2640 make 7200, and in slot 1 both are off: 7200 / 100 less each.
        int sum = 4560 + 2640;
        Check.same("tripped in slot 0", y.count(0), 3);
        Check.same("slots on of phase 1", y.phase(1, 3), 11);
        Check.same("mean current", y.count(5), meanOfFalling(4560, 2640, sum));
    }

    private static int meanOfFalling(int first, int second, int voltage) {
        int sum = first + second;
        for (int slot = 1; slot < 20; slot++) {
            first = Math.max(0, first - voltage / 100);
            second = Math.max(0, second - voltage / 100);
            voltage = Math.min(40000, voltage + first + second);
            sum += first + second;
        }
        return sum / 20;
    }

    private static void voltage() {
        // Phase 1 was shed, and has its 12000 all the same.
        PhaseConverter x = Converters.shorted(2, 1);
        x.set(11, 30000);
        x.start();
        x.run(5);
        x.stop();
        Check.same("active phases", x.count(3), 1);
        Converters.set(x, 4, 500, 2, 23501);
        Check.same("499 / 500", x.run(1), 0);
        // In slot 0 it rises by 1; then both currents fall by 1 in each slot, and 498 / 500 is 0.
        x.set(2, 23500);
        Check.same("500 / 500", x.run(1), 1);
        Check.same("a current", x.phase(1, 0), 12000 - 19);
        // The load alone.
        PhaseConverter y = Converters.held(3, 40000);
        Converters.set(y, 2, 60000, 4, 500);
        Check.same("-60000 / 500", y.run(1), 40000 - 20 * 120);
        Converters.set(y, 2, 700, 4, 7);
        Check.same("-700 / 7", y.run(1), 40000 - 20 * 120 - 20 * 100);
    }

    private static void voltageIsClamped() {
        // 24000 less the load, and then 24000 more: 40000 is just met with a load of 8000.
        int[][] loads = {{0, 40000}, {7999, 40000}, {8000, 40000}, {8001, 39999}};
        for (int[] each : loads) {
            PhaseConverter x = Converters.held(1, 0);
            x.start();
            Check.same("the greatest with a load of " + each[0], x.ifLoaded(each[0], 1, 2), each[1]);
        }
        // What was clamped away is not kept: it falls from 40000.
        PhaseConverter x = Converters.held(1, 0);
        x.start();
        x.run(1);
        Check.counts("clamped", x, 3, 40000);
        x.set(2, 1);
        Check.same("from 40000", x.run(1), 40000 - 20);
        PhaseConverter y = Converters.held(1, 20);
        y.set(2, 1);
        Check.same("just 0", y.run(1), 0);
        PhaseConverter z = Converters.held(1, 20);
        z.set(2, 2);
        Check.same("not below 0", z.run(1), 0);
        // From 0, not from below: the first slot on lifts it by 24000 at once.
        z.set(2, 0);
        z.start();
        Check.same("up again", z.ifLoaded(0, 1, 1), 24000);
    }

    private static void overvoltage() {
        PhaseConverter x = Converters.highOutput(12000);
        x.start();
        x.run(1);
        Check.counts("12000 is not above 12000", x, 1, 12000, 100, 1, 1, 600, 100, 58, 0, 0, 0, 12000, 0, 1, 1);
        PhaseConverter y = Converters.highOutput(11999);
        y.start();
        y.run(1);
        Check.counts("12000 is above 11999", y, 3, 12000, 100, 1, 1, 600, 100, 58, 0, 0, 0, 12000, 0, 1, 1);
        y.run(5);
        Check.counts("tripped it stays", y, 3, 12000, 100, 1, 6, 0, 100, 58, 0, 0, 0, 12000, 0, 1, 6);
        Check.same("it can be started again", y.start(), 12000);
        y.run(1);
        Check.same("and trips again", y.count(0), 3);
        // Only while it runs.
        y.stop();
        y.run(1);
        Check.same("off is not tripped", y.count(0), 0);
        y.set(13, 24000);
        y.start();
        y.run(1);
        Check.same("nor is starved", y.count(0), 4);
        // Regulating it trips as well.
        PhaseConverter z = regulatingAt(12000, 12000);
        z.run(1);
        Check.same("regulating", z.count(0), 2);
        z.set(12, 11999);
        z.run(1);
        Check.same("tripped", z.count(0), 3);
    }

    private static void otherSlots() {
        // Tripped in slot 0; the load goes on in the slots 1 to 19.
        PhaseConverter x = Converters.held(1, 12000);
        Converters.set(x, 1, 12000, 2, 100, 9, 0, 12, 11000);
        x.start();
        x.run(1);
        Check.same("tripped", x.count(0), 3);
        // 24000 - 12000 in slot 0, and in slot 1 the current falls by 23900.
        Check.same("slots on", x.phase(0, 3), 2 + 1);
        Check.same("mean current", x.count(5), 12000 / 20);
        Check.same("voltage", x.count(1), 12000 + 11900 - 19 * 100);
        Check.record("the cycle is recorded", x, 0, 22000, 600, 1900, 1, 3, 0);
        Check.same("cycles", x.count(4), 3);
    }
}
