/** What it means to stop, and promises 5 to 7: start, stop, run. */
public final class ModeTest {
    private static final int MOST_CYCLES = 100000;

    public static void main(String[] args) {
        Check.run("ModeTest", sentences());
    }

    static Sentences sentences() {
        return new Sentences()
            .in("Terms")
            .holds("To stop the converter means: the mode becomes the one that is told,", ModeTest::stoppedModes)
            .holds("and the remaining on-times of all phases become 0.", ModeTest::stoppedOnTimes)
            .in("Promise 5: start")
            .holds("Starts the converter: the mode becomes 1,", ModeTest::startMakesMode1)
            .holds("the present target becomes the output voltage,", ModeTest::startTakesTheVoltageAsTarget)
            .holds("the integral, both counts and all rests become 0,", ModeTest::startClears)
            .holds("and all phases become active (this is no change of their number as counted by count(12)).",
                ModeTest::startMakesAllActive)
            .holds("Returns the output voltage.", ModeTest::startAnswersTheVoltage)
            .holds("Throws IllegalStateException if it runs", ModeTest::startRefuses)
            .in("Promise 6: stop")
            .holds("Stops the converter, with the mode 0.", ModeTest::stopMakesMode0)
            .holds("Returns the previous mode.", ModeTest::stopAnswersThePreviousMode)
            .in("Promise 7: run")
            .holds("Lets cycles pass.", ModeTest::cyclesPass)
            .holds("cycles: 1 to 200", ModeTest::runTakes1To200)
            .holds("Returns the output voltage afterwards.", ModeTest::runAnswersTheVoltage)
            .holds("Throws IllegalArgumentException if cycles is not 1 to 200", ModeTest::runRefuses)
            .holds("Throws IllegalStateException if there would be more than 100000 cycles", ModeTest::cycleLimit);
    }

    private static void stoppedModes() {
        PhaseConverter x = Converters.running(2, 1000, 3);
        x.stop();
        Check.same("stopped by a call", x.count(0), 0);
        PhaseConverter y = Converters.running(2, 1000, 3);
        y.set(13, 24000);
        y.run(1);
        Check.same("stopped by the least input", y.count(0), 4);
        y.run(1);
        Check.same("starved it stays", y.count(0), 4);
        PhaseConverter z = Converters.highOutput(11999);
        z.start();
        z.run(1);
        Check.same("stopped by the overvoltage", z.count(0), 3);
        z.run(1);
        Check.same("tripped it stays", z.count(0), 3);
    }

    /** Three pulses of 18 slots, of which those of phases 1 and 2 go over the end of the cycle. */
    private static PhaseConverter withPulsesOn() {
        PhaseConverter x = Converters.steady(3);
        x.start();
        x.run(3);
        Check.same("phase 1 is on", x.phase(1, 1), 4);
        Check.same("phase 2 is on", x.phase(2, 1), 11);
        return x;
    }

    private static void stoppedOnTimes() {
        PhaseConverter x = withPulsesOn();
        x.stop();
        PhaseConverter y = withPulsesOn();
        y.set(13, 24000);
        y.run(1);
        // 240 in phase 0 after slot 0, and what phases 1 and 2 have: the output rises at once.
        PhaseConverter z = withPulsesOn();
        Converters.set(z, 0, 24000, 4, 1, 12, 12000);
        z.run(1);
        Check.same("tripped", z.count(0), 3);
        Check.same("phase 0 was on in one slot of the cycle", z.phase(0, 3), 2 + 3 * 18 + 1);
        Check.same("phase 1 was on in one slot of the cycle", z.phase(1, 3), 2 * 18 + 14 + 1);
        Check.same("phase 2 was on in one slot of the cycle", z.phase(2, 3), 2 * 18 + 7 + 1);
        Check.same("starved, phase 1 was on no more", y.phase(1, 3), 2 * 18 + 14);
        for (int p = 0; p < 3; p++) {
            Check.same("on-time when stopped", x.phase(p, 1), 0);
            Check.same("on-time when starved", y.phase(p, 1), 0);
            Check.same("on-time when tripped", z.phase(p, 1), 0);
        }
    }

    private static void startMakesMode1() {
        for (int mode : new int[] {0, 3, 4}) {
            PhaseConverter x = Converters.inMode(mode);
            x.start();
            Check.same("mode after start in mode " + mode, x.count(0), 1);
        }
        // What start does not name stays as it is.
        PhaseConverter y = Converters.shorted(2, 1);
        y.start();
        y.run(9);
        y.stop();
        int[] before = new int[15];
        for (int what = 0; what < 15; what++) {
            before[what] = y.count(what);
        }
        y.start();
        for (int what : new int[] {1, 4, 5, 7, 8, 9, 10, 11, 12, 13, 14}) {
            Check.same("start leaves count(" + what + ")", y.count(what), before[what]);
        }
        Check.yes("there is a duty to leave", before[7] > 0);
    }

    private static void startTakesTheVoltageAsTarget() {
        for (int voltage : new int[] {0, 20, 3300, 12000, 40000}) {
            PhaseConverter x = Converters.held(1, voltage);
            x.start();
            Check.same("present target", x.count(2), voltage);
        }
        // It ramps from there.
        PhaseConverter y = Converters.held(1, 3300);
        Converters.set(y, 1, 12000, 3, 100, 4, 500, 8, 100);
        y.start();
        y.run(1);
        Check.counts("after a cycle", y, 1, y.count(1), 3400);
        // From above the target the ramp ends in its first cycle.
        PhaseConverter z = Converters.held(1, 30000);
        z.start();
        z.run(1);
        Check.counts("after a cycle", z, 2, 30000, 3300);
    }

    private static void startClears() {
        PhaseConverter x = Converters.shorted(2, 100);
        Converters.set(x, 6, 0, 7, 0, 11, 30000);
        x.start();
        x.run(5);
        Check.same("phase 1 was shed", x.count(3), 1);
        Check.yes("phase 0 has a rest", x.phase(0, 2) > 0);
        Check.yes("phase 1 has a rest", x.phase(1, 2) > 0);
        Check.same("integral", x.count(6), 2000 + 4 * 3300);
        x.stop();
        x.start();
        Check.same("integral after start", x.count(6), 0);
        Check.same("rest of phase 0", x.phase(0, 2), 0);
        Check.same("rest of phase 1, which was shed", x.phase(1, 2), 0);
        // The shedding count begins anew: five more cycles, not fewer.
        x.run(4);
        Check.same("four light cycles shed nothing", x.count(3), 2);
        x.stop();
        x.start();
        x.run(4);
        Check.same("nor four more after a start", x.count(3), 2);
        x.run(1);
        Check.same("the fifth sheds", x.count(3), 1);
    }

    private static void startMakesAllActive() {
        PhaseConverter x = Converters.begun(4, 2, 0, 11, 30000);
        x.start();
        x.run(15);
        Check.same("three were shed", x.count(3), 1);
        Check.same("changes", x.count(12), 3);
        x.stop();
        Check.same("stop leaves the active phases", x.count(3), 1);
        x.start();
        Check.same("all active again", x.count(3), 4);
        Check.same("start is no counted change", x.count(12), 3);
    }

    private static void startAnswersTheVoltage() {
        Check.same("start at 0", new PhaseConverter().start(), 0);
        Check.same("start at 3300", Converters.held(2, 3300).start(), 3300);
        Check.same("start at 40000", Converters.held(3, 40000).start(), 40000);
        PhaseConverter x = Converters.inMode(3);
        Check.same("start when tripped", x.start(), 12000);
    }

    private static void startRefuses() {
        PhaseConverter x = new PhaseConverter();
        x.start();
        Check.refuses("start() after start()", x, Check.STATE, x::start);
        x.run(32);
        Check.refuses("start() in mode 1", x, Check.STATE, x::start);
        x.run(1);
        Check.refuses("start() in mode 2", x, Check.STATE, x::start);
        x.stop();
        Check.same("start() after stop()", x.start(), x.count(1));
    }

    private static void stopMakesMode0() {
        for (int mode = 0; mode <= 4; mode++) {
            PhaseConverter x = Converters.inMode(mode);
            x.stop();
            Check.same("mode after stop in mode " + mode, x.count(0), 0);
            x.run(1);
            Check.same("mode after a cycle", x.count(0), 0);
        }
        // What stop does not name stays as it is.
        PhaseConverter y = withPulsesOn();
        int[] before = new int[15];
        for (int what = 0; what < 15; what++) {
            before[what] = y.count(what);
        }
        int current = y.phase(1, 0);
        int rest = y.phase(1, 2);
        y.stop();
        for (int what = 1; what < 15; what++) {
            Check.same("stop leaves count(" + what + ")", y.count(what), before[what]);
        }
        Check.phase("stop leaves the rest of a phase", y, 1, current, 0, rest, 2 * 18 + 14, 0, 0, 3);
    }

    private static void stopAnswersThePreviousMode() {
        for (int mode = 0; mode <= 4; mode++) {
            PhaseConverter x = Converters.inMode(mode);
            Check.same("stop in mode " + mode, x.stop(), mode);
            Check.same("stop once more", x.stop(), 0);
        }
    }

    private static void cyclesPass() {
        PhaseConverter x = new PhaseConverter();
        x.run(1);
        Check.counts("a cycle when off", x, 0, 0, 0, 2, 1, 0, 0, 0, 0, 0, 0, 0, 0, 2, 1);
        x.run(5);
        Check.same("cycles", x.count(4), 6);
        // Many cycles in one call are as many calls of one cycle.
        PhaseConverter once = new PhaseConverter();
        PhaseConverter often = new PhaseConverter();
        once.start();
        often.start();
        once.run(57);
        Converters.runOften(often, 57, 1);
        Check.same("run(57) is 57 times run(1)", once.digest(), often.digest());
    }

    private static void runTakes1To200() {
        PhaseConverter x = new PhaseConverter();
        x.start();
        x.run(1);
        Check.same("cycles", x.count(4), 1);
        x.run(200);
        Check.same("cycles", x.count(4), 201);
        x.run(199);
        Check.same("cycles", x.count(4), 400);
    }

    private static void runAnswersTheVoltage() {
        PhaseConverter x = Converters.held(1, 40000);
        x.set(2, 1);
        Check.same("20 slots", x.run(1), 39980);
        Check.same("200 cycles", x.run(200), 39980 - 4000);
        PhaseConverter y = new PhaseConverter();
        y.start();
        Check.same("in the ramp", y.run(9), y.count(1));
        Check.yes("it is not 0", y.count(1) > 0);
        Check.same("down to 0", Converters.set(Converters.held(1, 40000), 2, 60000).run(1), 0);
    }

    private static void runRefuses() {
        PhaseConverter x = Converters.running(2, 1000, 7);
        for (int cycles : new int[] {0, 201, -1, -200, 100001, Integer.MIN_VALUE, Integer.MAX_VALUE}) {
            Check.refuses("run(" + cycles + ")", x, Check.ARGUMENT, () -> x.run(cycles));
        }
        Check.same("cycles", x.count(4), 7);
    }

    private static void cycleLimit() {
        PhaseConverter x = new PhaseConverter();
        x.start();
        Converters.runOften(x, 499, 200);
        Check.same("cycles", x.count(4), 99800);
        Check.same("run(200) up to the limit", x.run(200), x.count(1));
        Check.same("cycles at the limit", x.count(4), MOST_CYCLES);
        Check.throwing("run(1) at the limit", Check.STATE, () -> x.run(1));
        Check.throwing("run(200) at the limit", Check.STATE, () -> x.run(200));
        Check.same("cycles stay", x.count(4), MOST_CYCLES);
        PhaseConverter y = new PhaseConverter();
        y.start();
        Converters.runOften(y, 499, 200);
        y.run(1);
        // Not even those cycles pass for which there would be room.
        Check.refuses("run(200) with 199 left", y, Check.STATE, () -> y.run(200));
        Check.same("run(199) with 199 left", y.run(199), y.count(1));
        Check.same("cycles", y.count(4), MOST_CYCLES);
        y.begin(2);
        Check.same("run(200) after begin", y.run(200), 0);
        Check.same("cycles after begin", y.count(4), 200);
    }
}
