/**
 * The terms "Cycles" and "Slots" (promise 7, seen through promises 12 to 14), by cases that
 * were worked out by hand from the document.
 */
public final class CycleTest {
    public static void main(String[] args) {
        firstCycles();
        restIsCarried();
        ramp();
        targetIsMoved();
        dutyIsTheSumOfItsParts();
        dutyIsClamped();
        integralIsClamped();
        starved();
        pulsesBeginAtTheirSlots();
        currentLimit();
        currentLimitOfAnEarlierPulse();
        balance();
        balanceIsClampedAtNothing();
        overvoltage();
        voltageIsClamped();
        skippedPulses();
        skippedByMeanCurrent();
        pulsesOfNoLength();
        shedding();
        sheddingEndsAPulse();
        adding();
        addingAllAgain();
        countsBeginAnew();
        fallingCurrent();
        inputBelowOutput();
        recordsOfACycle();
        Check.end("CycleTest");
    }

    private static void firstCycles() {
        PhaseConverter x = new PhaseConverter();
        x.begin(1);
        x.start();
        // Target 100: 1000 * 100 / 12000 = 8, 100 * 50 / 100 = 50, 100 * 20 / 10000 = 0.
        // 20 * 58 = 1160: one slot on, rest 160. 12000 / 20 = 600, and the load keeps the output at 0.
        Check.same("run(1)", x.run(1), 0);
        Check.counts("cycle 1", x, 1, 0, 100, 1, 1, 600, 100, 58, 0, 0, 0, 600, 0, 1, 1);
        Check.phase("cycle 1", x, 0, 600, 0, 160, 1, 0, 0, 1);
        Check.record("cycle 1", x, 0, 0, 600, 0, 1, 1, 0);
        // Target 200: 16 + 100 + 300 * 20 / 10000 = 116; 160 + 2320 = 2480: two slots, rest 480.
        // 1200 and 200 / 50 = 4; 1200 + 11996 / 20 = 1799 and 4 + 799 / 50 = 19; then the output
        // rises by 15 a slot while the current falls by a twentieth of it.
        x.run(1);
        Check.same("duty of cycle 2", x.count(7), 116);
        Check.same("integral of cycle 2", x.count(6), 300);
        Check.same("rest of cycle 2", x.phase(0, 2), 480);
        Check.same("slots on after cycle 2", x.phase(0, 3), 3);
        int voltage = 19;
        int current = 1799;
        int sum = 1200 + 1799;
        for (int slot = 2; slot < 20; slot++) {
            current -= voltage / 20;
            voltage += (current - 1000) / 50;
            sum += current;
        }
        Check.same("voltage after cycle 2", x.count(1), voltage);
        Check.same("current after cycle 2", x.phase(0, 0), current);
        Check.same("mean current of cycle 2", x.count(5), sum / 20);
        Check.same("ripple of cycle 2", x.count(8), voltage - 4);
    }

    /** The output stays at 0 under so great a load: a current that is made stays. */
    private static PhaseConverter shorted(int phases, int inductance) {
        PhaseConverter x = new PhaseConverter();
        x.begin(phases);
        x.set(2, 60000);
        x.set(3, inductance);
        x.set(8, 2000);
        return x;
    }

    private static void restIsCarried() {
        PhaseConverter x = shorted(1, 100);
        x.set(6, 0);
        x.set(7, 0);
        x.set(10, 30000);
        x.start();
        // 1000 * 2000 / 12000 = 166: 3320 is 3 slots and rest 320.
        x.run(1);
        Check.phase("cycle 1", x, 0, 3 * 120, 0, 320, 3, 0, 0, 1);
        // The target is reached: 275, 5500 + 320 is 5 slots and rest 820.
        x.run(1);
        Check.phase("cycle 2", x, 0, 8 * 120, 0, 820, 8, 0, 0, 2);
        x.run(1);
        Check.phase("cycle 3", x, 0, 14 * 120, 0, 320, 14, 0, 0, 3);
    }

    private static void ramp() {
        PhaseConverter x = new PhaseConverter();
        x.start();
        x.run(32);
        Check.same("present target after 32 steps", x.count(2), 3200);
        Check.same("mode", x.count(0), 1);
        x.run(1);
        Check.same("present target after 33 steps", x.count(2), 3300);
        Check.same("the target reached exactly: mode", x.count(0), 2);
        PhaseConverter y = shorted(2, 100);
        y.set(8, 1999);
        y.start();
        y.run(1);
        Check.counts("one long step", y, 1, y.count(1), 1999);
        y.run(1);
        Check.counts("a step beyond the target", y, 2, y.count(1), 3300);
    }

    private static void targetIsMoved() {
        PhaseConverter x = new PhaseConverter();
        x.start();
        x.run(40);
        x.set(12, 30000);
        x.set(1, 5000);
        Check.same("set alone leaves the present target", x.count(2), 3300);
        x.run(1);
        Check.counts("the target raised in mode 2", x, 2, x.count(1), 5000);
        x.set(1, 700);
        x.run(1);
        Check.counts("the target lowered in mode 2", x, 2, x.count(1), 700);
        x.stop();
        x.set(1, 900);
        x.run(1);
        Check.counts("the target moved when off", x, 0, x.count(1), 700);
        PhaseConverter y = new PhaseConverter();
        y.start();
        y.run(10);
        y.set(1, 600);
        y.run(1);
        Check.counts("the target lowered in the ramp", y, 2, y.count(1), 600);
    }

    private static void dutyIsTheSumOfItsParts() {
        PhaseConverter x = shorted(1, 100);
        x.set(1, 10794);
        x.set(6, 0);
        x.set(7, 0);
        x.start();
        x.run(6);
        Check.same("1000 * 10794 / 12000", x.count(7), 899);
        x.set(1, 1200);
        x.set(7, 20);
        x.run(50);
        Check.same("integral", x.count(6), 100000);
        Check.same("100 + 200", x.count(7), 300);
        x.set(7, 21);
        x.set(6, 9);
        x.run(1);
        Check.same("100 + 108 + 210", x.count(7), 418);
        // Above the target each part is truncated toward 0.
        PhaseConverter y = highOutput(12000);
        y.set(1, 12000);
        y.start();
        y.run(1);
        y.set(0, 24000);
        y.set(8, 2000);
        y.set(6, 1);
        y.set(7, 1);
        y.run(5);
        // 100, then 2100 to 10100 less 12000: 100 - 9900 - 7900 - 5900 - 3900 - 1900.
        Check.same("integral", y.count(6), -29400);
        Check.same("420 - 1900 / 100 - 29400 / 10000", y.count(7), 420 - 19 - 2);
    }

    private static void dutyIsClamped() {
        PhaseConverter x = shorted(1, 100);
        x.start();
        // 166 + 1000 + 4
        x.run(1);
        Check.same("duty", x.count(7), 900);
        Check.phase("cycle 1", x, 0, 18 * 120, 0, 0, 18, 0, 0, 1);
        PhaseConverter y = new PhaseConverter();
        y.begin(1);
        y.set(2, 0);
        y.set(12, 30000);
        y.start();
        y.run(60);
        y.set(1, 500);
        y.run(1);
        Check.same("duty far above the target", y.count(7), 0);
    }

    private static void integralIsClamped() {
        PhaseConverter x = shorted(1, 100);
        x.set(1, 12000);
        x.start();
        int[] due = {2000, 6000, 12000, 20000, 30000, 42000, 54000, 66000, 78000, 90000, 100000, 100000};
        for (int value : due) {
            x.run(1);
            Check.same("integral", x.count(6), value);
        }
        PhaseConverter y = highOutput(12000);
        y.set(1, 500);
        y.start();
        y.run(1);
        Check.same("integral", y.count(6), 100);
        int integral = 100;
        for (int target = 200; target <= 1400; target += 100) {
            y.run(1);
            integral = Math.max(-100000, integral + Math.min(target, 500) - 12000);
            Check.same("negative integral", y.count(6), integral);
        }
        Check.same("least integral", y.count(6), -100000);
        Check.same("duty", y.count(7), 0);
    }

    private static void starved() {
        PhaseConverter x = new PhaseConverter();
        x.set(0, 4000);
        x.set(1, 2000);
        x.set(2, 60000);
        x.set(3, 100);
        x.set(8, 2000);
        x.start();
        x.run(5);
        Check.same("the least input is enough", x.count(0), 2);
        Check.same("a pulse is on", x.phase(1, 1) > 0 ? 1 : 0, 1);
        int integral = x.count(6);
        int duty = x.count(7);
        int pulses = x.phase(0, 6);
        int slots = x.phase(0, 3) + x.phase(1, 3);
        x.set(13, 4001);
        Check.same("set alone stops nothing", x.count(0), 2);
        x.run(1);
        Check.same("starved", x.count(0), 4);
        Check.same("present target stays", x.count(2), 2000);
        Check.same("integral stays", x.count(6), integral);
        Check.same("duty stays", x.count(7), duty);
        Check.same("no pulse begins", x.phase(0, 6), pulses);
        Check.same("the pulse that was on ends at once", x.phase(0, 3) + x.phase(1, 3), slots);
        Check.record("starved", x, 0, x.count(1), x.count(5), x.count(8), 2, 4, 0);
        // The input counts only while it runs.
        x.stop();
        x.run(1);
        Check.same("off is not starved", x.count(0), 0);
        x.start();
        Check.same("it can be started", x.count(0), 1);
        x.run(1);
        Check.same("starved in the ramp", x.count(0), 4);
        PhaseConverter y = new PhaseConverter();
        y.set(13, 12001);
        y.start();
        y.run(1);
        Check.counts("starved in the first cycle", y, 4, 0, 0, 2, 1, 0, 0, 0, 0, 0, 0, 0, 0, 2, 1);
    }

    private static void pulsesBeginAtTheirSlots() {
        // One slot on makes 12000, then the limit keeps it: 600 of the mean a slot.
        int[] slotsLeft = {0, 20, 20 + 10, 20 + 14 + 7, 20 + 15 + 10 + 5};
        for (int phases = 1; phases <= 4; phases++) {
            PhaseConverter x = shorted(phases, 1);
            x.start();
            x.run(1);
            Check.same("mean current with phases " + phases, x.count(5), 600 * slotsLeft[phases]);
            for (int p = 0; p < phases; p++) {
                Check.phase("pulse at its slot", x, p, 12000, 0, 0, 1, 1, 0, 1);
            }
            Check.same("limit events", x.count(9), phases);
        }
    }

    private static void currentLimit() {
        PhaseConverter x = shorted(1, 1);
        x.set(5, 12000);
        x.start();
        x.run(1);
        Check.phase("at the limit", x, 0, 12000, 0, 0, 1, 1, 0, 1);
        Check.record("at the limit", x, 0, 0, 12000, 0, 1, 1, 1);
        x.run(1);
        Check.phase("at the limit again", x, 0, 12000, 0, 0, 1, 2, 0, 2);
        Check.same("limit events", x.count(9), 2);
        Check.record("at the limit again", x, 0, 0, 12000, 0, 1, 2, 1);
        PhaseConverter y = shorted(1, 1);
        y.set(5, 12001);
        y.start();
        y.run(1);
        Check.phase("one below the limit", y, 0, 24000, 0, 0, 2, 1, 0, 1);
        Check.same("greatest current", y.count(11), 24000);
        Check.same("mean current", y.count(5), (12000 + 19 * 24000) / 20);
        // 166 is 3 slots; the limit is met when the last of them is left.
        PhaseConverter z = shorted(1, 100);
        z.set(5, 240);
        z.set(6, 0);
        z.set(7, 0);
        z.start();
        z.run(1);
        Check.phase("with one slot left", z, 0, 240, 0, 320, 2, 1, 0, 1);
        // 275 is 5 slots, all of them lost to the limit at the first.
        z.run(1);
        Check.phase("an event ends the pulse", z, 0, 240, 0, 820, 2, 2, 0, 2);
    }

    private static void currentLimitOfAnEarlierPulse() {
        PhaseConverter x = shorted(2, 100);
        x.start();
        x.run(1);
        // Phase 1 began at slot 10 and has 8 of its 18 slots left.
        Check.phase("a pulse over the end of a cycle", x, 1, 10 * 120, 8, 0, 10, 0, 0, 1);
        x.set(5, 1200);
        x.run(1);
        // Phase 0 has 480 above the mean: 900 - 48 = 852, 17040.
        Check.phase("phase 0 is above the limit", x, 0, 18 * 120, 0, 40, 18, 1, 0, 2);
        Check.phase("phase 1 meets it twice", x, 1, 1200, 0, 0, 10, 2, 0, 2);
        Check.same("limit events of the cycle", x.record(0, 5), 3);
        Check.same("limit events before", x.record(1, 5), 0);
        Check.same("limit events", x.count(9), 3);
    }

    private static void balance() {
        PhaseConverter x = shorted(2, 100);
        x.set(6, 0);
        x.set(7, 0);
        x.start();
        // Duty 166. Phase 1 begins when phase 0 has 360: 166 + 180 * 100 / 1000 = 184.
        x.run(1);
        Check.phase("cycle 1", x, 0, 360, 0, 320, 3, 0, 0, 1);
        Check.phase("cycle 1", x, 1, 360, 0, 680, 3, 0, 0, 1);
        // Duty 275: 5820, then 275 + 30 = 305: 6780.
        x.run(1);
        Check.phase("cycle 2", x, 0, 960, 0, 820, 8, 0, 0, 2);
        Check.phase("cycle 2", x, 1, 1080, 0, 780, 9, 0, 0, 2);
        Check.same("unbalance", x.unbalance(), 120);
        // 275 + 6 = 281: 6440; then 305: 6880.
        x.run(1);
        Check.phase("cycle 3", x, 0, 1680, 0, 440, 14, 0, 0, 3);
        Check.phase("cycle 3", x, 1, 1800, 0, 880, 15, 0, 0, 3);
        // Without a gain both get 275.
        x.set(14, 0);
        x.run(1);
        Check.phase("cycle 4", x, 0, 1680 + 5 * 120, 0, 940, 19, 0, 0, 4);
        Check.phase("cycle 4", x, 1, 1800 + 6 * 120, 0, 380, 21, 0, 0, 4);
    }

    private static void balanceIsClampedAtNothing() {
        PhaseConverter x = shorted(2, 100);
        x.set(14, 1000);
        x.set(0, 1000);
        x.set(13, 0);
        x.set(6, 0);
        x.set(7, 0);
        x.start();
        // Duty 900; phase 1 gets no more than 900 either.
        x.run(1);
        Check.phase("clamped above", x, 0, 180, 0, 0, 18, 0, 0, 1);
        Check.phase("clamped above", x, 1, 100, 8, 0, 10, 0, 0, 1);
        // Phase 0 has 80 more than phase 1 has, 40 above the mean: 900 - 40 = 860, 17 slots, rest 200.
        x.run(1);
        Check.same("duty", x.count(7), 900);
        Check.phase("less than the duty", x, 0, 350, 0, 200, 35, 0, 0, 2);
        Check.phase("clamped above", x, 1, 280, 8, 0, 28, 0, 0, 2);
        // With a tiny duty the excess of phase 0 takes all of it.
        x.set(0, 24000);
        x.set(1, 500);
        x.run(1);
        Check.same("duty", x.count(7), 20);
        Check.phase("clamped to 0", x, 0, 350, 0, 200, 35, 0, 0, 3);
    }

    /** One slot on lifts the output to the input voltage at once; without a load it stays there. */
    private static PhaseConverter highOutput(int overvoltage) {
        PhaseConverter x = new PhaseConverter();
        x.begin(1);
        x.set(2, 0);
        x.set(3, 1);
        x.set(4, 1);
        x.set(12, overvoltage);
        return x;
    }

    private static void overvoltage() {
        PhaseConverter x = highOutput(12000);
        x.start();
        Check.same("run(1)", x.run(1), 12000);
        Check.counts("just not too high", x, 1, 12000, 100, 1, 1, 600, 100, 58, 0, 0, 0, 12000, 0, 1, 1);
        Check.phase("the current has fallen", x, 0, 0, 0, 160, 1, 0, 0, 1);
        PhaseConverter y = highOutput(11999);
        y.start();
        y.run(1);
        Check.counts("too high", y, 3, 12000, 100, 1, 1, 600, 100, 58, 0, 0, 0, 12000, 0, 1, 1);
        y.run(5);
        Check.counts("tripped it stays", y, 3, 12000, 100, 1, 6, 0, 100, 58, 0, 0, 0, 12000, 0, 1, 6);
        Check.phase("no more pulses", y, 0, 0, 0, 160, 1, 0, 0, 1);
        Check.same("it can be started again", y.start(), 12000);
        y.run(1);
        Check.same("and trips again", y.count(0), 3);
        // The level is looked at when the converter runs, not when it is off.
        y.stop();
        y.run(1);
        Check.same("off is not tripped", y.count(0), 0);
    }

    private static void voltageIsClamped() {
        PhaseConverter x = new PhaseConverter();
        x.begin(4);
        x.set(0, 24000);
        x.set(2, 0);
        x.set(3, 1);
        x.set(4, 1);
        x.set(5, 30000);
        x.set(8, 2000);
        x.set(12, 30000);
        x.start();
        // 24000, then 48000 is clamped to 40000 and trips; the other phases never begin.
        Check.same("run(1)", x.run(1), 40000);
        Check.counts("clamped", x, 3, 40000, 2000, 4, 1, 2400, 2000, 900, 16000, 0, 0, 24000, 0, 4, 1);
        Check.phase("phase 0", x, 0, 0, 0, 0, 2, 0, 0, 1);
        Check.phase("phase 1", x, 1, 0, 0, 0, 0, 0, 0, 0);
        Check.asks("ifLoaded least", x, 0, () -> x.ifLoaded(40000, 1, 1));
        x.set(2, 60000);
        Check.same("clamped below", x.run(1), 0);
        Check.same("ripple", x.count(8), 0);
        PhaseConverter y = new PhaseConverter();
        y.set(2, 60000);
        Check.same("a load at 0", y.run(1), 0);
    }

    private static void skippedPulses() {
        PhaseConverter x = highOutput(12000);
        x.start();
        x.run(1);
        // In the ramp the mean current of 600 does not matter.
        x.run(1);
        Check.phase("skipped in the ramp", x, 0, 0, 0, 160, 1, 0, 1, 1);
        Check.same("skipped", x.count(10), 1);
        x.set(9, 0);
        x.run(1);
        Check.phase("the skip level does not matter there", x, 0, 0, 0, 160, 1, 0, 2, 1);
        x.run(29);
        Check.counts("the last cycle of the ramp", x, 1, 12000, 3200);
        Check.same("skipped", x.count(10), 31);
        x.run(1);
        Check.counts("regulating", x, 2, 12000, 3300);
        Check.phase("not below the level of 0: a pulse without a slot", x, 0, 0, 0, 160, 1, 0, 31, 2);
        x.set(9, 1);
        x.run(1);
        Check.phase("below the level of 1: skipped", x, 0, 0, 0, 160, 1, 0, 32, 2);
        Check.same("skipped", x.count(10), 32);
        // An output equal to the present target is enough to skip, one less is not.
        x.set(1, 12000);
        x.run(1);
        Check.phase("at the target: skipped", x, 0, 0, 0, 160, 1, 0, 33, 2);
        x.set(1, 11999);
        x.run(1);
        Check.phase("above the target: skipped", x, 0, 0, 0, 160, 1, 0, 34, 2);
        PhaseConverter y = highOutput(12000);
        y.start();
        y.run(1);
        y.stop();
        y.set(0, 24000);
        y.set(1, 12000);
        y.set(4, 500);
        y.set(2, 500);
        y.set(12, 30000);
        y.start();
        // The present target is the output itself and one step more.
        y.run(1);
        Check.phase("below the target: not skipped", y, 0, y.phase(0, 0), y.phase(0, 1), y.phase(0, 2),
            y.phase(0, 3), y.phase(0, 4), 0, 2);
    }

    private static void skippedByMeanCurrent() {
        // Off, a current would fall; so the mean current is made by the cycle before.
        PhaseConverter x = highOutput(12000);
        x.set(1, 500);
        x.set(8, 500);
        x.set(9, 600);
        x.start();
        x.run(1);
        Check.counts("regulating at once", x, 2, 12000, 500, 1, 1, 600);
        x.run(1);
        Check.same("a mean current at the level does not skip", x.phase(0, 5), 0);
        Check.same("the pulse counts", x.phase(0, 6), 2);
        PhaseConverter y = highOutput(12000);
        y.set(1, 500);
        y.set(8, 500);
        y.set(9, 601);
        y.start();
        y.run(2);
        Check.same("a mean current below the level skips", y.phase(0, 5), 1);
        Check.same("the skipped pulse does not count", y.phase(0, 6), 1);
    }

    private static void pulsesOfNoLength() {
        PhaseConverter x = shorted(1, 100);
        x.set(6, 0);
        x.set(7, 0);
        x.set(8, 100);
        x.start();
        // 8, 16, 25: 160, 480, 980 are no slot, 33 makes it 1640.
        int[] rests = {160, 480, 980, 640};
        for (int i = 0; i < rests.length; i++) {
            x.run(1);
            Check.phase("short pulses", x, 0, i == 3 ? 120 : 0, 0, rests[i], i == 3 ? 1 : 0, 0, 0, i + 1);
        }
    }

    private static void shedding() {
        PhaseConverter x = shorted(4, 1);
        x.set(10, 30000);
        x.start();
        x.run(2);
        Check.same("mean current", x.count(5), 48000);
        // Not below 16000 * 3.
        x.set(11, 16000);
        x.run(10);
        Check.same("at the level nothing is shed", x.count(3), 4);
        x.set(11, 16001);
        x.run(4);
        Check.same("four light cycles", x.count(3), 4);
        x.run(1);
        Check.counts("the fifth", x, 2, 0, 3300, 3);
        Check.same("changes", x.count(12), 1);
        Check.same("the record tells it", x.record(0, 3), 3);
        Check.same("the record before", x.record(1, 3), 4);
        // 48000 is not below 16001 * 2: it ends there.
        x.run(10);
        Check.same("three stay", x.count(3), 3);
        Check.same("the shed phase gets no pulses", x.phase(3, 6), 16);
        Check.same("the others do", x.phase(2, 6), 27);
        x.set(11, 30000);
        x.run(5);
        Check.same("two", x.count(3), 2);
        x.run(20);
        Check.same("48000 is not below 30000 * 1", x.count(3), 2);
        PhaseConverter y = new PhaseConverter();
        y.set(11, 30000);
        y.start();
        y.run(5);
        Check.same("one", y.count(3), 1);
        y.run(20);
        Check.same("the last phase is never shed", y.count(3), 1);
        Check.same("changes", y.count(12), 1);
        // Off, no cycle sheds.
        PhaseConverter z = new PhaseConverter();
        z.set(11, 30000);
        z.run(20);
        Check.same("off", z.count(3), 2);
    }

    private static void sheddingEndsAPulse() {
        PhaseConverter x = shorted(2, 100);
        x.set(5, 30000);
        x.set(11, 30000);
        x.start();
        x.run(4);
        Check.same("a pulse of phase 1 is on", x.phase(1, 1) > 0 ? 1 : 0, 1);
        int slots = x.phase(1, 3);
        int current = x.phase(1, 0);
        x.run(1);
        Check.same("active", x.count(3), 1);
        Check.same("the pulse ended", x.phase(1, 1), 0);
        Check.same("no slot more", x.phase(1, 3), slots);
        Check.same("the current of a shed phase counts on", x.phase(1, 0), current);
        Check.same("but not for the unbalance", x.unbalance(), 0);
        // Nor for the balance: the only active phase is at the mean of the active ones.
        x.set(14, 1000);
        int before = x.phase(0, 3);
        x.run(1);
        Check.same("duty", x.count(7), 900);
        Check.same("slots on", x.phase(0, 3), before + 18);
    }

    private static void adding() {
        PhaseConverter x = shorted(2, 1);
        x.start();
        x.run(2);
        x.set(11, 24001);
        x.run(5);
        Check.same("shed", x.count(3), 1);
        Check.same("mean current", x.count(5), 24000);
        x.set(11, 0);
        x.set(10, 24000);
        x.run(10);
        Check.same("at the level nothing is added", x.count(3), 1);
        x.set(10, 23999);
        x.run(2);
        Check.same("two heavy cycles", x.count(3), 1);
        int pulses = x.phase(1, 6);
        x.run(1);
        Check.same("the third", x.count(3), 2);
        Check.same("changes", x.count(12), 2);
        Check.same("the added phase gets its pulse in this cycle", x.phase(1, 6), pulses + 1);
        x.set(10, 1);
        x.run(10);
        Check.same("no more than there are", x.count(3), 2);
        Check.same("changes", x.count(12), 2);
    }

    private static void addingAllAgain() {
        PhaseConverter x = shorted(4, 1);
        x.set(10, 30000);
        x.set(11, 30000);
        x.start();
        int[] due = {4, 4, 4, 4, 3, 3, 3, 3, 3, 2};
        for (int active : due) {
            x.run(1);
            Check.same("active while shedding", x.count(3), active);
        }
        x.set(11, 0);
        x.set(10, 1);
        int[] dueAgain = {2, 2, 3, 3, 3, 4, 4, 4, 4};
        for (int active : dueAgain) {
            x.run(1);
            Check.same("active while adding", x.count(3), active);
        }
        Check.same("changes", x.count(12), 4);
    }

    private static void countsBeginAnew() {
        PhaseConverter x = shorted(3, 1);
        x.start();
        x.run(2);
        x.set(11, 30000);
        x.run(4);
        x.set(11, 0);
        x.run(1);
        x.set(11, 30000);
        x.run(4);
        Check.same("a cycle between clears the shedding count", x.count(3), 3);
        x.run(1);
        Check.same("five in a row shed", x.count(3), 2);
        x.set(11, 0);
        x.set(10, 17999);
        x.run(2);
        x.set(10, 18000);
        x.run(1);
        x.set(10, 17999);
        x.run(2);
        Check.same("a cycle between clears the adding count", x.count(3), 2);
        x.run(1);
        Check.same("three in a row add", x.count(3), 3);
        // Both at once: adding goes first and clears the shedding count.
        x.set(10, 30000);
        x.set(11, 30000);
        x.run(5);
        Check.same("shed again", x.count(3), 2);
        x.set(11, 30000);
        x.set(10, 1);
        // 36000 is above 2 and not below 30000.
        x.run(3);
        Check.same("added again", x.count(3), 3);
        x.run(4);
        Check.same("the shedding count began anew", x.count(3), 3);
        x.run(1);
        Check.same("the fifth light cycle", x.count(3), 2);
    }

    private static void fallingCurrent() {
        PhaseConverter x = highOutput(30000);
        x.set(3, 7);
        x.set(4, 500);
        x.start();
        x.run(40);
        x.stop();
        int voltage = x.count(1);
        int current = x.phase(0, 0);
        int sum = 0;
        for (int slot = 0; slot < 20; slot++) {
            current = Math.max(0, current - voltage / 7);
            voltage = voltage + current / 500;
            sum += current;
        }
        x.run(1);
        Check.same("voltage", x.count(1), voltage);
        Check.same("current", x.phase(0, 0), current);
        Check.same("mean current", x.count(5), sum / 20);
    }

    private static void inputBelowOutput() {
        // The output is at 12000 when the input falls to 1000: a pulse takes current away.
        PhaseConverter x = highOutput(12000);
        x.start();
        x.run(1);
        x.set(0, 1000);
        x.set(13, 0);
        x.set(1, 12000);
        x.set(8, 2000);
        x.set(9, 0);
        x.run(8);
        Check.counts("regulating", x, 2, 12000, 12000);
        Check.same("duty", x.count(7), 900);
        Check.phase("on without a current", x, 0, 0, 0, x.phase(0, 2), 1 + 18 * 3, 0, 5, 4);
    }

    private static void recordsOfACycle() {
        PhaseConverter x = shorted(2, 1);
        x.start();
        x.run(1);
        Check.record("mean, phases, mode and limit events", x, 0, 0, 18000, 0, 2, 1, 2);
        x.set(2, 10000);
        x.set(4, 500);
        x.run(1);
        Check.record("voltage, mean current and ripple", x, 0, x.count(1), x.count(5), x.count(8), 2, 2, 2);
        Check.same("the ripple is not 0", x.count(8) > 0 ? 1 : 0, 1);
    }
}
