/** Promises 15 to 17: ifLoaded, settles, greatestLoad. */
public final class OutlookTest {
    private static final int NONE = PhaseConverter.NONE;

    public static void main(String[] args) {
        Check.run("OutlookTest", sentences());
    }

    static Sentences sentences() {
        Sentences all = new Sentences();
        ifLoadedSentences(all.in("Promise 15: ifLoaded"));
        all.in("Promise 16: settles")
            .holds("Finds out how many cycles must pass until the output voltage settles, if nothing is set.",
                OutlookTest::settlesAsATwinDoes)
            .holds("Nothing is changed.", OutlookTest::settlesChangesNothing)
            .holds("band: 0 to 5000", OutlookTest::bands)
            .holds("Returns the least n from 1 to 200", OutlookTest::from1To200)
            .holds("such that at the ends of the cycles n, n + 1 and n + 2 from now on", OutlookTest::threeCycles)
            .holds("the output voltage differs from the target voltage by at most the band;", OutlookTest::atMostTheBand)
            .holds("NONE if there is no such n.", OutlookTest::neverSettles)
            .holds("Throws IllegalArgumentException if band is not 0 to 5000", OutlookTest::settlesRefuses)
            .in("Promise 17: greatestLoad")
            .holds("Finds the greatest load current,", OutlookTest::theGreatest)
            .holds("a multiple of 500 from 0 to 20000,", OutlookTest::multiplesOf500)
            .holds("with which the output voltage would never be below a level,", OutlookTest::notBelowTheLevel)
            .holds("at the ends of the slots of the next 30 cycles.", OutlookTest::slotsOf30Cycles)
            .holds("Nothing is changed.", OutlookTest::greatestLoadChangesNothing)
            .holds("level: 0 to 40000", OutlookTest::levels)
            .holds("Returns the load current;", OutlookTest::answersTheLoad)
            .holds("NONE if there is none.", OutlookTest::noLoad)
            .holds("Throws IllegalArgumentException if level is not 0 to 40000", OutlookTest::greatestLoadRefuses);
        return all;
    }

    private static void ifLoadedSentences(Sentences all) {
        all.holds("Tells what would happen with another load current.", OutlookTest::ifLoadedAsATwinDoes)
            .holds("Nothing is changed.", OutlookTest::ifLoadedChangesNothing)
            .holds("(The limit of 100000 cycles does not matter here, nor in settles and greatestLoad.)",
                OutlookTest::beyondTheCycleLimit)
            .holds("load: the load current, 0 to 60000", OutlookTest::loads)
            .holds("cycles: how many cycles would pass, 1 to 100", OutlookTest::cycles)
            .holds("what: 0: the output voltage at the end;", OutlookTest::voltageAtTheEnd)
            .holds("1: the least output voltage at the end of a slot;", OutlookTest::leastVoltage)
            .holds("2: the greatest one;", OutlookTest::greatestVoltage)
            .holds("3: the mode at the end;", OutlookTest::modeAtTheEnd)
            .holds("4: the active phases at the end;", OutlookTest::activePhasesAtTheEnd)
            .holds("5: the greatest current of a phase at the end of a slot", OutlookTest::greatestCurrent)
            .holds("Returns the number; 1, 2 and 5 are about these cycles only.", OutlookTest::theseCyclesOnly)
            .holds("Throws IllegalArgumentException if an argument is out of range", OutlookTest::ifLoadedRefuses);
    }

    private static void ifLoadedAsATwinDoes() {
        for (int load : new int[] {0, 300, 1000, 9000, 25000, 60000}) {
            for (int cycles : new int[] {1, 2, 7, 100}) {
                PhaseConverter x = Converters.running(3, 2000, 50);
                PhaseConverter twin = Converters.running(3, 2000, 50);
                twin.set(2, load);
                twin.run(cycles);
                String with = " with " + load + " for " + cycles;
                Check.same("voltage" + with, x.ifLoaded(load, cycles, 0), twin.count(1));
                Check.same("mode" + with, x.ifLoaded(load, cycles, 3), twin.count(0));
                Check.same("active phases" + with, x.ifLoaded(load, cycles, 4), twin.count(3));
            }
        }
        // A pulse that is on goes on: phase 1 has 8 slots left, and so 2160 before its next pulse.
        PhaseConverter on = Converters.shorted(2, 100);
        on.set(14, 1000);
        on.start();
        on.run(1);
        Check.phase("phase 1 is on", on, 1, 1200, 8);
        Check.same("2160 and 10 slots more", on.ifLoaded(60000, 1, 5), 2160 + 1200);
        // It follows the ramp, from the very beginning too.
        PhaseConverter x = new PhaseConverter();
        x.start();
        PhaseConverter twin = new PhaseConverter();
        twin.set(2, 2500);
        twin.start();
        twin.run(60);
        Check.same("voltage from the start", x.ifLoaded(2500, 60, 0), twin.count(1));
        Check.same("greatest current from the start", x.ifLoaded(2500, 60, 5), twin.count(11));
    }

    /** With an adding or a shedding count that the next cycle completes. */
    static PhaseConverter beforeAChange(boolean adding) {
        PhaseConverter x = Converters.shorted(3, 100);
        Converters.set(x, 5, 100, 11, 30000);
        x.start();
        x.run(adding ? 5 : 4);
        if (adding) {
            Converters.set(x, 10, 1, 11, 0);
            x.run(2);
        }
        Check.same("active phases", x.count(3), adding ? 2 : 3);
        return x;
    }

    /** The question leaves even what no other question shows. */
    private static void changesNothing(String what, Asked question) {
        for (boolean adding : new boolean[] {true, false}) {
            PhaseConverter x = beforeAChange(adding);
            long before = x.digest();
            question.ask(x);
            Check.same("digest after " + what, x.digest(), before);
            Check.same("load current", x.setting(2), 60000);
            x.run(1);
            Check.same("active phases after a cycle more", x.count(3), adding ? 3 : 2);
            PhaseConverter twin = beforeAChange(adding);
            twin.run(1);
            Check.same("as a twin that was not asked", x.digest(), twin.digest());
        }
    }

    private interface Asked {
        void ask(PhaseConverter x);
    }

    private static void ifLoadedChangesNothing() {
        for (int what = 0; what <= 5; what++) {
            int asked = what;
            changesNothing("ifLoaded of " + what, x -> x.ifLoaded(7, 100, asked));
        }
    }

    private static void beyondTheCycleLimit() {
        PhaseConverter x = new PhaseConverter();
        x.start();
        x.run(200);
        x.stop();
        x.set(2, 0);
        Converters.runOften(x, 499, 200);
        // Off and without a load it stands still; a load of 1000 takes 20 a slot.
        int voltage = x.count(1);
        Check.yes("there is a voltage", voltage > 2000);
        Check.same("ifLoaded at the limit", x.ifLoaded(1000, 1, 0), voltage - 400);
        Check.same("settles at the limit", x.settles(5000), 1);
        Check.same("greatestLoad at the limit", x.greatestLoad(voltage), 0);
        Check.same("cycles", x.count(4), 100000);
    }

    private static void loads() {
        PhaseConverter x = Converters.held(1, 40000);
        Check.asks("no load", x, 40000, () -> x.ifLoaded(0, 1, 0));
        Check.asks("the least", x, 40000 - 20, () -> x.ifLoaded(1, 1, 0));
        x.set(4, 500);
        Check.asks("the greatest", x, 40000 - 20 * 120, () -> x.ifLoaded(60000, 1, 0));
        Check.asks("one less", x, 40000 - 20 * 119, () -> x.ifLoaded(59999, 1, 0));
    }

    private static void cycles() {
        PhaseConverter x = Converters.held(1, 40000);
        Check.asks("one", x, 40000 - 20, () -> x.ifLoaded(1, 1, 0));
        Check.asks("two", x, 40000 - 40, () -> x.ifLoaded(1, 2, 0));
        Check.asks("a hundred", x, 40000 - 2000, () -> x.ifLoaded(1, 100, 0));
    }

    private static void voltageAtTheEnd() {
        PhaseConverter x = Converters.held(1, 40000);
        Check.asks("after a cycle", x, 38000, () -> x.ifLoaded(100, 1, 0));
        Check.asks("down to 0", x, 0, () -> x.ifLoaded(100, 20, 0));
        Check.asks("and not below", x, 0, () -> x.ifLoaded(100, 21, 0));
        // 24000 at the end of slot 0, 40000 in slot 1, and then 1 less in each slot.
        PhaseConverter y = Converters.held(1, 0);
        y.start();
        Check.asks("between the least and the greatest", y, 40000 - 18, () -> y.ifLoaded(1, 1, 0));
    }

    private static void leastVoltage() {
        PhaseConverter x = Converters.held(1, 40000);
        Check.asks("of a cycle", x, 38000, () -> x.ifLoaded(100, 1, 1));
        Check.asks("of 19 cycles", x, 2000, () -> x.ifLoaded(100, 19, 1));
        Check.asks("of 20 cycles", x, 0, () -> x.ifLoaded(100, 20, 1));
        // 24000 in slot 0, 40000 in slot 1, and so it stays: the 0 before them does not count.
        PhaseConverter y = Converters.held(1, 0);
        y.start();
        Check.asks("of the first slot", y, 24000, () -> y.ifLoaded(0, 1, 1));
        Check.asks("of all cycles, not of the last", y, 24000, () -> y.ifLoaded(0, 2, 1));
    }

    private static void greatestVoltage() {
        PhaseConverter x = Converters.held(1, 40000);
        Check.asks("at the end of the first slot", x, 39900, () -> x.ifLoaded(100, 1, 2));
        Check.asks("of all cycles, not of the last", x, 39900, () -> x.ifLoaded(100, 20, 2));
        Check.asks("no load", x, 40000, () -> x.ifLoaded(0, 100, 2));
        Check.asks("the greatest load", x, 0, () -> x.ifLoaded(60000, 1, 2));
        PhaseConverter y = Converters.held(1, 0);
        y.start();
        Check.asks("at the end of the second slot", y, 40000, () -> y.ifLoaded(0, 1, 2));
    }

    private static void modeAtTheEnd() {
        PhaseConverter x = Converters.shorted(1, 100);
        Check.asks("off", x, 0, () -> x.ifLoaded(60000, 9, 3));
        x.start();
        Check.asks("ramping", x, 1, () -> x.ifLoaded(60000, 1, 3));
        Check.asks("regulating", x, 2, () -> x.ifLoaded(60000, 2, 3));
        PhaseConverter y = Converters.held(1, 0);
        y.start();
        Check.asks("tripped", y, 3, () -> y.ifLoaded(0, 1, 3));
        x.set(13, 24000);
        Check.asks("starved", x, 4, () -> x.ifLoaded(60000, 1, 3));
    }

    private static void activePhasesAtTheEnd() {
        PhaseConverter x = beforeAChange(false);
        Check.asks("one is shed in the next cycle", x, 2, () -> x.ifLoaded(60000, 1, 4));
        Check.asks("another after five more", x, 2, () -> x.ifLoaded(60000, 5, 4));
        Check.asks("another after five more", x, 1, () -> x.ifLoaded(60000, 6, 4));
        PhaseConverter y = beforeAChange(true);
        Check.asks("one is added in the next cycle", y, 3, () -> y.ifLoaded(60000, 1, 4));
    }

    private static void greatestCurrent() {
        PhaseConverter x = CycleTest.threeOf100(1000);
        Check.asks("two slots of phase 2", x, 200, () -> x.ifLoaded(60000, 1, 5));
        Check.asks("of two cycles", x, 600, () -> x.ifLoaded(60000, 2, 5));
        // 12000 at the end of slot 0, and none in the cycles after it.
        PhaseConverter y = Converters.highOutput(30000);
        y.start();
        Check.asks("of the first slot", y, 12000, () -> y.ifLoaded(0, 1, 5));
        Check.asks("of all cycles, not of the last", y, 12000, () -> y.ifLoaded(0, 9, 5));
    }

    private static void theseCyclesOnly() {
        PhaseConverter x = Converters.held(1, 20000);
        Check.same("a current of before", x.count(11), 24000);
        Check.asks("no current in these cycles", x, 0, () -> x.ifLoaded(100, 1, 5));
        Check.asks("not the 40000 of before", x, 19900, () -> x.ifLoaded(100, 1, 2));
        Check.asks("nor the 20000 of now", x, 20000 - 2000, () -> x.ifLoaded(100, 1, 1));
        x.set(2, 2000);
        x.run(1);
        x.start();
        Check.asks("nor the 0 of now", x, 24000, () -> x.ifLoaded(0, 1, 1));
        // The current of now is not at the end of a slot to come: 3300 / 20 less.
        PhaseConverter y = Converters.running(1, 5000, 60);
        y.stop();
        int current = y.phase(0, 0);
        int fall = y.count(1) / 20;
        Check.yes("there is a current that falls", current > fall && fall > 0);
        Check.asks("the current after a slot", y, current - fall, () -> y.ifLoaded(5000, 1, 5));
    }

    private static void ifLoadedRefuses() {
        PhaseConverter x = Converters.running(2, 1000, 20);
        int[][] wrong = {{-1, 1, 0}, {60001, 1, 0}, {0, 0, 0}, {0, 101, 0}, {0, 1, -1}, {0, 1, 6}, {-1, -1, -1},
            {0, -1, 0}, {60001, 101, 6}, {Integer.MAX_VALUE, 1, 0}, {0, Integer.MAX_VALUE, 0}, {0, 1, Integer.MAX_VALUE},
            {Integer.MIN_VALUE, 1, 0}, {0, Integer.MIN_VALUE, 0}, {0, 1, Integer.MIN_VALUE}};
        for (int[] a : wrong) {
            Check.refuses("ifLoaded(" + a[0] + ", " + a[1] + ", " + a[2] + ")", x, Check.ARGUMENT,
                () -> x.ifLoaded(a[0], a[1], a[2]));
        }
        Check.same("ifLoaded(60000, 100, 5) is not refused", x.ifLoaded(60000, 100, 5) >= 0 ? 1 : 0, 1);
    }

    private static int settlesOfTwin(PhaseConverter twin, int band) {
        boolean[] inside = new boolean[203];
        for (int i = 1; i <= 202; i++) {
            inside[i] = Math.abs(twin.run(1) - 3300) <= band;
        }
        for (int n = 1; n <= 200; n++) {
            if (inside[n] && inside[n + 1] && inside[n + 2]) {
                return n;
            }
        }
        return NONE;
    }

    private static void settlesAsATwinDoes() {
        for (int band : new int[] {0, 1, 10, 50, 300, 3299, 3300, 5000}) {
            for (int load : new int[] {0, 500, 3000, 20000}) {
                int due = settlesOfTwin(Converters.running(2, load, 5), band);
                Check.same("settles(" + band + ") with " + load, Converters.running(2, load, 5).settles(band), due);
            }
        }
    }

    private static void settlesChangesNothing() {
        for (int band : new int[] {0, 50, 5000}) {
            changesNothing("settles(" + band + ")", x -> x.settles(band));
        }
    }

    /** Off at 40000, with so great a load that a cycle takes 20 times as much; the target is 12000. */
    private static PhaseConverter falling(int load) {
        PhaseConverter x = Converters.held(1, 40000);
        return Converters.set(x, 1, 12000, 2, load);
    }

    private static void bands() {
        PhaseConverter x = Converters.held(1, 12000);
        x.set(1, 12000);
        Check.asks("settles(0)", x, 1, () -> x.settles(0));
        x.set(1, 11999);
        Check.asks("settles(0) beside it", x, NONE, () -> x.settles(0));
        Check.asks("settles(1) beside it", x, 1, () -> x.settles(1));
        PhaseConverter y = Converters.held(1, 17000);
        y.set(1, 12000);
        Check.asks("settles(5000)", y, 1, () -> y.settles(5000));
        Check.asks("settles(4999)", y, NONE, () -> y.settles(4999));
    }

    private static void from1To200() {
        // 40000 - 120 * n: 17000 is passed at n = 192, 16000 is met at n = 200.
        PhaseConverter x = falling(6);
        Check.asks("192", x, 192, () -> x.settles(5000));
        Check.asks("200", x, 200, () -> x.settles(4000));
        Check.asks("201 is too many", x, NONE, () -> x.settles(3999));
        // At 12000 and below from the first cycle on: the 40000 before it do not count.
        PhaseConverter y = falling(60000);
        y.set(1, 500);
        Check.asks("1", y, 1, () -> y.settles(500));
    }

    private static void threeCycles() {
        // 40000 - 200 * n: 12200, 12000 and 11800 at n = 139 to 141.
        PhaseConverter x = falling(10);
        Check.asks("three are enough", x, 139, () -> x.settles(200));
        Check.asks("one is too few", x, NONE, () -> x.settles(199));
        // 40000 - 220 * n: 12280, 12060, 11840, 11620 at n = 126 to 129.
        PhaseConverter y = falling(11);
        Check.asks("two are too few", y, NONE, () -> y.settles(160));
        Check.asks("two are too few", y, NONE, () -> y.settles(279));
        Check.asks("three are enough", y, 126, () -> y.settles(280));
        // It is asked from now on: after a cycle it is one less.
        y.run(1);
        Check.asks("from now on", y, 125, () -> y.settles(280));
        // 40000 - 140 * n: 12000, 11860 and 11720 at n = 200 to 202.
        PhaseConverter z = falling(7);
        z.set(1, 11860);
        Check.asks("two of them beyond the 200th", z, 200, () -> z.settles(140));
        Check.asks("all three are needed", z, NONE, () -> z.settles(139));
    }

    private static void atMostTheBand() {
        PhaseConverter x = Converters.held(1, 12000);
        int[][] targets = {{11950, 1}, {11949, NONE}, {12000, 1}};
        for (int[] each : targets) {
            x.set(1, each[0]);
            Check.asks("12000 beside " + each[0], x, each[1], () -> x.settles(50));
        }
        PhaseConverter y = Converters.held(1, 11900);
        int[][] targetsOfY = {{11950, 1}, {11951, NONE}, {11850, 1}, {11849, NONE}};
        for (int[] each : targetsOfY) {
            y.set(1, each[0]);
            Check.asks("11900 beside " + each[0], y, each[1], () -> y.settles(50));
        }
        // The target voltage, not the present target of the ramp.
        PhaseConverter z = Converters.shorted(1, 100);
        Converters.set(z, 1, 5000, 8, 1);
        z.start();
        Check.asks("0 beside 5000, while the ramp is low", z, 1, () -> z.settles(5000));
        Check.asks("0 beside 5000, while the ramp is low", z, NONE, () -> z.settles(4999));
    }

    private static void neverSettles() {
        Check.asks("off at 0", new PhaseConverter(), NONE, () -> new PhaseConverter().settles(3299));
        PhaseConverter x = falling(5);
        // 40000 - 100 * n: 19800 at n = 202.
        Check.asks("too slow", x, NONE, () -> x.settles(5000));
        Check.same("NONE", PhaseConverter.NONE, -1);
    }

    private static void settlesRefuses() {
        PhaseConverter x = Converters.running(2, 1000, 20);
        for (int band : new int[] {-1, 5001, -5000, Integer.MIN_VALUE, Integer.MAX_VALUE}) {
            Check.refuses("settles(" + band + ")", x, Check.ARGUMENT, () -> x.settles(band));
        }
        Check.same("settles(5000) is not refused", x.settles(5000), 1);
    }

    private static int greatestLoadByIfLoaded(PhaseConverter x, int level) {
        for (int load = 20000; load >= 0; load -= 500) {
            if (x.ifLoaded(load, 30, 1) >= level) {
                return load;
            }
        }
        return NONE;
    }

    private static void theGreatest() {
        for (int level : new int[] {0, 1, 100, 2500, 3000, 3200, 3290, 3310, 4000, 40000}) {
            PhaseConverter x = Converters.running(4, 3000, 60);
            Check.same("greatestLoad(" + level + ")", x.greatestLoad(level), greatestLoadByIfLoaded(x, level));
        }
        // A load of 1000 trips the overvoltage and fails, while 0 and 1500 hold the level.
        PhaseConverter y = pulsing(6500, 0, 50, 1000, 10);
        Check.yes("1000 fails", y.ifLoaded(1000, 30, 1) < 5575);
        Check.yes("0 holds", y.ifLoaded(0, 30, 1) >= 5575);
        Check.yes("1500 holds", y.ifLoaded(1500, 30, 1) >= 5575);
        Check.yes("2000 fails", y.ifLoaded(2000, 30, 1) < 5575);
        Check.same("greatestLoad(5575)", y.greatestLoad(5575), 1500);
    }

    /** One phase at some 6000, half of the input voltage, after so many cycles. */
    private static PhaseConverter pulsing(int overvoltage, int gain, int capacity, int load, int cycles) {
        PhaseConverter x = Converters.held(1, 6000);
        Converters.set(x, 0, 12000, 1, 6000, 2, load, 3, 100, 4, capacity, 6, gain, 7, 0, 9, 0, 12, overvoltage);
        x.start();
        x.run(cycles);
        return x;
    }

    /** Off at 40000 with a capacity of 500: a load of 500 * k takes k a slot, 600 * k in 30 cycles. */
    private static PhaseConverter slowlyFalling() {
        return Converters.set(Converters.held(1, 40000), 4, 500);
    }

    private static void multiplesOf500() {
        PhaseConverter x = slowlyFalling();
        for (int k = 0; k <= 40; k++) {
            int level = 40000 - 600 * k;
            Check.same("greatestLoad(" + level + ")", x.greatestLoad(level), 500 * k);
        }
        Check.same("20500 is not tried", x.greatestLoad(40000 - 600 * 41), 20000);
        Check.same("nor any greater one", x.greatestLoad(0), 20000);
    }

    private static void notBelowTheLevel() {
        PhaseConverter x = slowlyFalling();
        Check.same("just at the level", x.greatestLoad(39400), 500);
        Check.same("one below it", x.greatestLoad(39401), 0);
        Check.same("just at the level", x.greatestLoad(16000), 20000);
        Check.same("one below it", x.greatestLoad(16001), 19500);
    }

    private static void slotsOf30Cycles() {
        // The last slot of the 30th cycle counts, and none after it.
        PhaseConverter x = slowlyFalling();
        Check.same("600 slots of 40", x.greatestLoad(40000 - 600 * 40), 20000);
        Check.same("not 599", x.greatestLoad(40000 - 599 * 40), 19500);
        // In the midst of a cycle the output is lower than at the ends of all cycles.
        PhaseConverter y = pulsing(30000, 20, 20, 2000, 100);
        int least = y.ifLoaded(2000, 30, 1);
        for (int cycles = 1; cycles <= 30; cycles++) {
            Check.yes("at the end of a cycle it is higher", y.ifLoaded(2000, cycles, 0) > least);
        }
        Check.same("2000 holds it", y.greatestLoad(least), 2000);
        Check.same("2000 does not hold one more", y.greatestLoad(least + 1), 1500);
    }

    private static void greatestLoadChangesNothing() {
        for (int level : new int[] {0, 1, 40000}) {
            changesNothing("greatestLoad(" + level + ")", x -> x.greatestLoad(level));
        }
    }

    private static void levels() {
        PhaseConverter x = Converters.held(1, 40000);
        Check.same("greatestLoad(40000)", x.greatestLoad(40000), 0);
        Check.same("greatestLoad(0)", x.greatestLoad(0), 20000);
        PhaseConverter y = Converters.held(1, 39980);
        Check.same("greatestLoad(40000)", y.greatestLoad(40000), NONE);
    }

    private static void answersTheLoad() {
        // The load that is set does not matter.
        PhaseConverter x = slowlyFalling();
        x.set(2, 60000);
        Check.same("greatestLoad(28000)", x.greatestLoad(28000), 10000);
        Check.same("the load that is set", x.setting(2), 60000);
    }

    private static void noLoad() {
        PhaseConverter x = new PhaseConverter();
        Check.same("nothing is at 1 or above", x.greatestLoad(1), NONE);
        Check.same("all is at 0 or above", x.greatestLoad(0), 20000);
        PhaseConverter y = Converters.held(1, 20);
        Check.same("20 without a load", y.greatestLoad(20), 0);
        Check.same("not 21", y.greatestLoad(21), NONE);
    }

    private static void greatestLoadRefuses() {
        PhaseConverter x = Converters.running(2, 1000, 20);
        for (int level : new int[] {-1, 40001, Integer.MIN_VALUE, Integer.MAX_VALUE}) {
            Check.refuses("greatestLoad(" + level + ")", x, Check.ARGUMENT, () -> x.greatestLoad(level));
        }
        Check.same("greatestLoad(40000) is not refused", x.greatestLoad(40000), NONE);
    }
}
