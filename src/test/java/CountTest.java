/** Promises 12 to 14: count, phase, record. */
public final class CountTest {
    public static void main(String[] args) {
        Check.run("CountTest", sentences());
    }

    static Sentences sentences() {
        Sentences all = new Sentences();
        countSentences(all.in("Promise 12: count"));
        phaseSentences(all.in("Promise 13: phase"));
        recordSentences(all.in("Promise 14: record"));
        return all;
    }

    private static void countSentences(Sentences all) {
        all.holds("Returns a number.", CountTest::countChangesNothing)
            .holds("what: 0: the mode;", CountTest::mode)
            .holds("1: the output voltage;", CountTest::voltage)
            .holds("2: the present target;", CountTest::presentTarget)
            .holds("3: the active phases;", CountTest::activePhases)
            .holds("4: the cycles that have passed;", CountTest::cycles)
            .holds("5: the mean current of the latest cycle;", CountTest::meanCurrent)
            .holds("6: the integral;", CountTest::integral)
            .holds("7: the duty;", CountTest::duty)
            .holds("8: the ripple of the latest cycle;", CountTest::ripple)
            .holds("9: limit events;", CountTest::limitEvents)
            .holds("10: skipped pulses;", CountTest::skippedPulses)
            .holds("11: the greatest current that a phase had at the end of a slot;", CountTest::greatestCurrent)
            .holds("12: how often the number of active phases was changed in step 4 of a cycle;", CountTest::changes)
            .holds("13: phases;", CountTest::phases)
            .holds("14: records", CountTest::records)
            .holds("Returns the number (5 and 8 are 0 before the first cycle;", CountTest::beforeTheFirstCycle)
            .holds("7 is 0 before it is computed,", CountTest::dutyBeforeItIsComputed)
            .holds("and stays when the converter is stopped).", CountTest::dutyStays)
            .holds("Throws IllegalArgumentException if what is not 0 to 14", CountTest::countRefuses);
    }

    private static void phaseSentences(Sentences all) {
        all.holds("Returns a property of a phase.", CountTest::phaseChangesNothing)
            .holds("phase: its number", CountTest::eachPhaseItsOwn)
            .holds("what: 0: the current;", CountTest::currentOfAPhase)
            .holds("1: the remaining on-time;", CountTest::onTimeOfAPhase)
            .holds("2: the rest;", CountTest::restOfAPhase)
            .holds("3: the slots in which it was on (in which its remaining on-time decreased by 1);",
                CountTest::slotsOfAPhase)
            .holds("4: its limit events;", CountTest::limitEventsOfAPhase)
            .holds("5: its skipped pulses;", CountTest::skippedPulsesOfAPhase)
            .holds("6: its pulses that were not skipped", CountTest::pulsesOfAPhase)
            .holds("Returns the property.", CountTest::propertiesAreKept)
            .holds("Throws IndexOutOfBoundsException if the phase does not exist", CountTest::noSuchPhase)
            .holds("Throws IllegalArgumentException if what is not 0 to 6", CountTest::phaseRefuses);
    }

    private static void recordSentences(Sentences all) {
        all.holds("Returns a part of a record.", CountTest::recordChangesNothing)
            .holds("index: 0 for the latest cycle, 1 for the one before it, and so on", CountTest::latestFirst)
            .holds("what: 0: the output voltage at the end of the cycle;", CountTest::voltageOfARecord)
            .holds("1: its mean current;", CountTest::meanCurrentOfARecord)
            .holds("2: its ripple;", CountTest::rippleOfARecord)
            .holds("3: the active phases at its end;", CountTest::activePhasesOfARecord)
            .holds("4: the mode at its end;", CountTest::modeOfARecord)
            .holds("5: its limit events", CountTest::limitEventsOfARecord)
            .holds("Returns the part.", CountTest::partsAreKept)
            .holds("Throws IndexOutOfBoundsException if there is no such record", CountTest::noSuchRecord)
            .holds("Throws IllegalArgumentException if what is not 0 to 5", CountTest::recordRefuses);
    }

    private static void countChangesNothing() {
        PhaseConverter x = Converters.shorted(3, 7);
        x.start();
        x.run(21);
        long before = x.digest();
        for (int what = 0; what <= 14; what++) {
            x.count(what);
            Check.same("digest after count(" + what + ")", x.digest(), before);
        }
    }

    private static void mode() {
        for (int mode = 0; mode <= 4; mode++) {
            Check.same("count(0)", Converters.inMode(mode).count(0), mode);
        }
    }

    private static void voltage() {
        for (int voltage : new int[] {0, 20, 12000, 40000}) {
            Check.same("count(1)", Converters.held(2, voltage).count(1), voltage);
        }
    }

    private static void presentTarget() {
        PhaseConverter x = Converters.shorted(1, 100);
        Check.same("before it was started", x.count(2), 0);
        x.start();
        x.run(1);
        Check.same("ramping", x.count(2), 2000);
        x.run(1);
        Check.same("regulating", x.count(2), 3300);
    }

    private static void activePhases() {
        PhaseConverter x = Converters.shorted(4, 100);
        Converters.set(x, 5, 100, 11, 30000);
        Check.same("all at first", x.count(3), 4);
        x.start();
        x.run(5);
        Check.same("one was shed", x.count(3), 3);
        x.run(10);
        Check.same("three were shed", x.count(3), 1);
    }

    private static void cycles() {
        PhaseConverter x = new PhaseConverter();
        Check.same("none", x.count(4), 0);
        x.run(1);
        x.start();
        x.run(200);
        Check.same("running or not", x.count(4), 201);
        x.ifLoaded(0, 100, 0);
        x.settles(0);
        x.greatestLoad(0);
        Check.same("questions are no cycles", x.count(4), 201);
        Converters.play(x, "r9");
        Check.same("those of a program", x.count(4), 210);
    }

    private static void meanCurrent() {
        PhaseConverter x = Converters.shorted(2, 1);
        x.start();
        x.run(1);
        Check.same("20 and 10 slots of 12000", x.count(5), 18000);
        x.run(1);
        Check.same("of the latest cycle alone", x.count(5), 24000);
        x.stop();
        x.set(2, 0);
        x.run(3);
        Check.same("of a cycle when off", x.count(5), 0);
    }

    private static void integral() {
        PhaseConverter x = Converters.shorted(1, 100);
        x.start();
        x.run(1);
        Check.same("2000", x.count(6), 2000);
        x.run(2);
        Check.same("2000 + 3300 + 3300", x.count(6), 8600);
        PhaseConverter y = Converters.held(1, 30000);
        y.start();
        y.run(2);
        Check.same("2 * (3300 - 30000)", y.count(6), -53400);
    }

    private static void duty() {
        PhaseConverter x = Converters.begun(1);
        x.start();
        x.run(1);
        Check.same("8 + 50", x.count(7), 58);
        x.run(1);
        Check.same("16 + 100", x.count(7), 116);
        // The duty, not what the balance makes of it.
        PhaseConverter y = CycleTest.threeOf100(1000);
        y.run(1);
        Check.same("50", y.count(7), 50);
    }

    private static void ripple() {
        PhaseConverter x = Converters.held(1, 40000);
        x.set(2, 100);
        x.run(1);
        Check.same("1900", x.count(8), 1900);
        x.set(2, 3);
        x.run(2);
        Check.same("of the latest cycle alone", x.count(8), 57);
    }

    private static void limitEvents() {
        PhaseConverter x = Converters.shorted(3, 1);
        x.start();
        x.run(1);
        Check.same("one of each phase", x.count(9), 3);
        x.run(20);
        Check.same("in all cycles", x.count(9), 63);
    }

    private static void skippedPulses() {
        PhaseConverter x = Converters.held(3, 12000);
        x.start();
        x.run(1);
        Check.same("one of each phase", x.count(10), 3);
        x.run(19);
        // From the fifth, tenth cycle on there is one phase less.
        Check.same("in all cycles", x.count(10), 3 * 4 + 2 * 5 + 11);
    }

    private static void greatestCurrent() {
        PhaseConverter x = Converters.held(1, 40000);
        Check.same("24000 in slot 0 and no current now", x.count(11), 24000);
        x.run(9);
        Check.same("it stays", x.count(11), 24000);
        // At the end of a slot, of one phase and not of all: two slots on in phase 2 alone.
        PhaseConverter y = CycleTest.threeOf100(1000);
        y.run(1);
        Check.same("the greatest of all phases", y.count(11), 200);
        y.run(1);
        Check.same("a greater one", y.count(11), 600);
        PhaseConverter z = Converters.highOutput(30000);
        z.start();
        z.run(1);
        Check.same("12000 in slot 0", z.count(11), 12000);
        Check.same("and 0 at the end", z.phase(0, 0), 0);
        z.begin(1);
        Check.same("none after begin", z.count(11), 0);
    }

    private static void changes() {
        PhaseConverter x = Converters.shorted(3, 100);
        Converters.set(x, 5, 100, 11, 30000);
        x.start();
        x.run(4);
        Check.same("none", x.count(12), 0);
        x.run(6);
        Check.same("two were shed", x.count(12), 2);
        Converters.set(x, 10, 1, 11, 0);
        x.run(6);
        Check.same("and two added", x.count(12), 4);
        Converters.set(x, 10, 30000, 11, 30000);
        x.run(5);
        x.stop();
        x.start();
        Check.same("all are active again", x.count(3), 3);
        Check.same("by start, which does not count", x.count(12), 5);
    }

    private static void phases() {
        for (int n = 1; n <= 4; n++) {
            PhaseConverter x = Converters.shorted(n, 100);
            Converters.set(x, 5, 100, 11, 30000);
            x.start();
            x.run(20);
            Check.same("active ones or not", x.count(13), n);
        }
    }

    private static void records() {
        PhaseConverter x = new PhaseConverter();
        for (int i = 0; i <= 20; i++) {
            Check.same("after " + i + " cycles", x.count(14), Math.min(i, 16));
            x.run(1);
        }
        x.run(200);
        Check.same("after many", x.count(14), 16);
        x.begin(2);
        Check.same("after begin", x.count(14), 0);
    }

    private static void beforeTheFirstCycle() {
        PhaseConverter x = new PhaseConverter();
        x.start();
        Check.same("mean current", x.count(5), 0);
        Check.same("ripple", x.count(8), 0);
        PhaseConverter y = Converters.shorted(2, 1);
        y.start();
        y.run(2);
        Check.same("a mean current", y.count(5), 24000);
        y.begin(2);
        Check.same("mean current after begin", y.count(5), 0);
        PhaseConverter z = Converters.held(1, 40000);
        z.set(2, 100);
        z.run(1);
        Check.same("a ripple", z.count(8), 1900);
        z.begin(2);
        Check.same("ripple after begin", z.count(8), 0);
    }

    private static void dutyBeforeItIsComputed() {
        PhaseConverter x = new PhaseConverter();
        Check.same("at first", x.count(7), 0);
        x.run(3);
        Check.same("cycles when off", x.count(7), 0);
        x.start();
        Check.same("start", x.count(7), 0);
        x.set(13, 24000);
        x.run(1);
        Check.same("a cycle that starves it", x.count(7), 0);
        PhaseConverter y = Converters.inMode(2);
        y.begin(2);
        Check.same("begin", y.count(7), 0);
    }

    private static void dutyStays() {
        PhaseConverter x = Converters.shorted(2, 100);
        x.start();
        x.run(1);
        Check.same("duty", x.count(7), 900);
        x.stop();
        Check.same("stopped by a call", x.count(7), 900);
        x.run(5);
        Check.same("cycles when off", x.count(7), 900);
        x.start();
        Check.same("started again", x.count(7), 900);
        x.set(13, 24000);
        x.run(5);
        Check.same("starved", x.count(7), 900);
        PhaseConverter y = Converters.inMode(3);
        y.run(5);
        Check.same("tripped", y.count(7), 58);
    }

    private static void countRefuses() {
        PhaseConverter x = Converters.running(2, 1000, 21);
        for (int what : new int[] {-1, 15, 16, Integer.MIN_VALUE, Integer.MAX_VALUE}) {
            Check.refuses("count(" + what + ")", x, Check.ARGUMENT, () -> x.count(what));
        }
        Check.same("count(0) is not refused", x.count(0), 1);
        Check.same("count(14) is not refused", x.count(14), 16);
    }

    private static void phaseChangesNothing() {
        PhaseConverter x = CycleTest.threeOf100(1000);
        x.run(2);
        long before = x.digest();
        for (int p = 0; p < 3; p++) {
            for (int what = 0; what <= 6; what++) {
                x.phase(p, what);
                Check.same("digest after phase(" + p + ", " + what + ")", x.digest(), before);
            }
        }
    }

    private static void eachPhaseItsOwn() {
        // Pulses of 18 slots that begin in the slots 0, 5, 10 and 15.
        PhaseConverter x = Converters.shorted(4, 100);
        x.set(14, 0);
        x.start();
        x.run(1);
        Check.phase("phase 0", x, 0, 18 * 120, 0, 0, 18, 0, 0, 1);
        Check.phase("phase 1", x, 1, 15 * 120, 3, 0, 15, 0, 0, 1);
        Check.phase("phase 2", x, 2, 10 * 120, 8, 0, 10, 0, 0, 1);
        Check.phase("phase 3", x, 3, 5 * 120, 13, 0, 5, 0, 0, 1);
    }

    private static void currentOfAPhase() {
        PhaseConverter x = Converters.shorted(2, 1);
        Check.same("none", x.phase(0, 0), 0);
        x.start();
        x.run(1);
        Check.same("phase 0", x.phase(0, 0), 12000);
        Check.same("phase 1", x.phase(1, 0), 12000);
    }

    private static void onTimeOfAPhase() {
        PhaseConverter x = Converters.shorted(2, 100);
        x.start();
        Check.same("before the first pulse", x.phase(1, 1), 0);
        x.run(1);
        Check.same("a pulse that has ended", x.phase(0, 1), 0);
        Check.same("a pulse that goes on", x.phase(1, 1), 8);
    }

    private static void restOfAPhase() {
        PhaseConverter x = CycleTest.threeOf100(1000);
        x.run(1);
        Check.same("20 * 50", x.phase(0, 2), 0);
        Check.same("20 * 83", x.phase(1, 2), 660);
        Check.same("20 * 116", x.phase(2, 2), 320);
    }

    private static void slotsOfAPhase() {
        PhaseConverter x = Converters.shorted(2, 100);
        x.start();
        x.run(1);
        Check.same("phase 0", x.phase(0, 3), 18);
        Check.same("phase 1", x.phase(1, 3), 10);
        x.set(14, 0);
        x.run(2);
        Check.same("phase 0 in three cycles", x.phase(0, 3), 54);
        Check.same("phase 1 in three cycles", x.phase(1, 3), 46);
        // A slot that the limit takes is none: 3 slots, of which 2 are left.
        PhaseConverter y = Converters.shorted(1, 100);
        Converters.set(y, 5, 240, 6, 0, 7, 0);
        y.start();
        y.run(1);
        Check.same("up to the limit", y.phase(0, 3), 2);
        // On without a current it is on all the same.
        PhaseConverter z = Converters.steady(1);
        Converters.set(z, 0, 1000, 13, 0);
        z.start();
        z.run(1);
        Check.same("without a current", z.phase(0, 3), 2 + 18);
    }

    private static void limitEventsOfAPhase() {
        PhaseConverter x = Converters.shorted(2, 100);
        x.start();
        x.run(1);
        x.set(5, 1300);
        x.run(1);
        // Phase 0 has 2160; phase 1 has 1200, gets to 1320 in slot 0 and meets the limit in the slots 1 and 10.
        Check.same("phase 0", x.phase(0, 4), 1);
        Check.same("phase 1", x.phase(1, 4), 2);
        Check.same("in all", x.count(9), 3);
        x.run(1);
        Check.same("phase 0", x.phase(0, 4), 2);
        Check.same("phase 1", x.phase(1, 4), 3);
    }

    private static void skippedPulsesOfAPhase() {
        // Phase 0 lifts the output above the target of the ramp, before phase 1 begins.
        PhaseConverter x = Converters.begun(2, 2, 0, 3, 1, 4, 1, 12, 30000);
        x.start();
        x.run(1);
        Check.same("phase 0", x.phase(0, 5), 0);
        Check.same("phase 1", x.phase(1, 5), 1);
        x.run(1);
        Check.same("phase 0", x.phase(0, 5), 1);
        Check.same("phase 1", x.phase(1, 5), 2);
        Check.same("in all", x.count(10), 3);
    }

    private static void pulsesOfAPhase() {
        PhaseConverter x = Converters.begun(2, 2, 0, 3, 1, 4, 1, 12, 30000);
        x.start();
        x.run(3);
        Check.same("phase 0", x.phase(0, 6), 1);
        Check.same("phase 1, all skipped", x.phase(1, 6), 0);
        // Pulses without a slot count too.
        PhaseConverter y = Converters.begun(1, 0, 24000, 6, 0, 7, 0, 8, 1);
        y.start();
        y.run(9);
        Check.phase("no slot in nine pulses", y, 0, 0, 0, 0, 0, 0, 0, 9);
    }

    private static void propertiesAreKept() {
        PhaseConverter x = Converters.shorted(3, 1);
        x.start();
        x.run(7);
        for (int p = 0; p < 3; p++) {
            Check.phase("running", x, p, 12000, 0, 0, 1, 7, 0, 7);
        }
        x.stop();
        x.run(7);
        for (int p = 0; p < 3; p++) {
            Check.phase("off", x, p, 12000, 0, 0, 1, 7, 0, 7);
        }
    }

    private static void noSuchPhase() {
        for (int n = 1; n <= 4; n++) {
            PhaseConverter x = Converters.running(n, 1000, 5);
            for (int p : new int[] {-1, n, n + 1, 4, 5, Integer.MIN_VALUE, Integer.MAX_VALUE}) {
                Check.refuses("phase(" + p + ", 0) of " + n, x, Check.INDEX, () -> x.phase(p, 0));
                Check.refuses("phase(" + p + ", 6) of " + n, x, Check.INDEX, () -> x.phase(p, 6));
            }
        }
        // A phase that is not active exists.
        PhaseConverter y = Converters.shorted(2, 100);
        Converters.set(y, 5, 100, 11, 30000);
        y.start();
        y.run(5);
        Check.same("active phases", y.count(3), 1);
        Check.same("phase(1, 6)", y.phase(1, 6), 4);
    }

    private static void phaseRefuses() {
        PhaseConverter x = Converters.running(2, 1000, 5);
        for (int what : new int[] {-1, 7, 8, Integer.MIN_VALUE, Integer.MAX_VALUE}) {
            Check.refuses("phase(0, " + what + ")", x, Check.ARGUMENT, () -> x.phase(0, what));
            Check.refuses("phase(1, " + what + ")", x, Check.ARGUMENT, () -> x.phase(1, what));
        }
        Check.same("phase(0, 6) is not refused", Converters.pulsesBegun(x, 0), 5);
    }

    private static void recordChangesNothing() {
        PhaseConverter x = Converters.running(2, 3000, 20);
        long before = x.digest();
        for (int index = 0; index < 16; index++) {
            for (int what = 0; what <= 5; what++) {
                x.record(index, what);
                Check.same("digest after record(" + index + ", " + what + ")", x.digest(), before);
            }
        }
    }

    private static void latestFirst() {
        PhaseConverter x = Converters.held(1, 40000);
        x.set(2, 100);
        x.run(3);
        int[] voltages = {34000, 36000, 38000, 40000, 40000};
        for (int i = 0; i < voltages.length; i++) {
            Check.same("record(" + i + ", 0)", x.record(i, 0), voltages[i]);
        }
        x.run(1);
        Check.same("a new one comes first", x.record(0, 0), 32000);
        Check.same("and the others go back by one", x.record(1, 0), 34000);
    }

    private static void voltageOfARecord() {
        PhaseConverter x = new PhaseConverter();
        x.start();
        int[] voltages = new int[17];
        for (int i = 0; i < 17; i++) {
            voltages[i] = x.run(1);
        }
        for (int i = 0; i < 16; i++) {
            Check.same("record(" + i + ", 0)", x.record(i, 0), voltages[16 - i]);
        }
    }

    private static void meanCurrentOfARecord() {
        PhaseConverter x = Converters.shorted(2, 1);
        x.start();
        x.run(2);
        Check.same("the latest", x.record(0, 1), 24000);
        Check.same("the first", x.record(1, 1), 18000);
    }

    private static void rippleOfARecord() {
        PhaseConverter x = Converters.held(1, 40000);
        x.set(2, 100);
        x.run(1);
        x.set(2, 3);
        x.run(1);
        Check.same("the latest", x.record(0, 2), 57);
        Check.same("the one before", x.record(1, 2), 1900);
        Check.same("the one before it", x.record(2, 2), 0);
    }

    private static void activePhasesOfARecord() {
        PhaseConverter x = Converters.shorted(4, 100);
        Converters.set(x, 5, 100, 11, 30000);
        x.start();
        x.run(16);
        for (int cycle = 1; cycle <= 16; cycle++) {
            Check.same("cycle " + cycle, x.record(16 - cycle, 3), 4 - cycle / 5);
        }
    }

    private static void modeOfARecord() {
        PhaseConverter x = Converters.shorted(1, 100);
        x.run(1);
        x.start();
        x.run(2);
        x.set(13, 24000);
        x.run(1);
        x.stop();
        Check.same("starved at its end, though it is off now", x.record(0, 4), 4);
        Check.same("regulating at its end, though ramping before", x.record(1, 4), 2);
        Check.same("ramping", x.record(2, 4), 1);
        Check.same("off", x.record(3, 4), 0);
        Check.same("tripped", Converters.inMode(3).record(0, 4), 3);
    }

    private static void limitEventsOfARecord() {
        PhaseConverter x = Converters.shorted(3, 1);
        x.run(1);
        x.start();
        x.run(1);
        x.set(5, 30000);
        x.run(1);
        x.run(1);
        // 12000, 24000, 36000: with the greater limit two slots more, and then the event of each phase.
        Check.same("latest", x.record(0, 5), 3);
        Check.same("the cycle before", x.record(1, 5), 3);
        Check.same("the first when started", x.record(2, 5), 3);
        Check.same("off", x.record(3, 5), 0);
        // Phase 1 meets the limit with both of its pulses.
        PhaseConverter y = Converters.shorted(2, 100);
        y.start();
        y.run(1);
        y.set(5, 1200);
        y.run(1);
        Check.same("three in one cycle", y.record(0, 5), 3);
        Check.same("none before", y.record(1, 5), 0);
    }

    private static void partsAreKept() {
        PhaseConverter x = Converters.shorted(2, 1);
        x.start();
        x.run(1);
        Check.record("of the latest", x, 0, 0, 18000, 0, 2, 1, 2);
        x.stop();
        x.run(15);
        Check.record("of the oldest", x, 15, 0, 18000, 0, 2, 1, 2);
        Check.record("off", x, 0, 0, 24000, 0, 2, 0, 0);
    }

    private static void noSuchRecord() {
        PhaseConverter x = new PhaseConverter();
        Check.refuses("record(0, 0) of none", x, Check.INDEX, () -> x.record(0, 0));
        for (int kept = 1; kept <= 17; kept++) {
            x.run(1);
            int beyond = Math.min(kept, 16);
            Check.refuses("record(" + beyond + ", 0)", x, Check.INDEX, () -> x.record(beyond, 0));
            Check.same("record(" + (beyond - 1) + ", 3)", x.record(beyond - 1, 3), 2);
        }
        for (int index : new int[] {-1, 17, 100, Integer.MIN_VALUE, Integer.MAX_VALUE}) {
            Check.refuses("record(" + index + ", 0)", x, Check.INDEX, () -> x.record(index, 0));
        }
    }

    private static void recordRefuses() {
        PhaseConverter x = Converters.running(2, 1000, 20);
        for (int what : new int[] {-1, 6, 7, Integer.MIN_VALUE, Integer.MAX_VALUE}) {
            Check.refuses("record(0, " + what + ")", x, Check.ARGUMENT, () -> x.record(0, what));
            Check.refuses("record(15, " + what + ")", x, Check.ARGUMENT, () -> x.record(15, what));
        }
        Check.same("record(0, 5) is not refused", x.record(0, 5), 0);
    }
}
