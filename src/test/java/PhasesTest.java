/** Step 4 of a cycle: phases that are added and shed. */
public final class PhasesTest {
    public static void main(String[] args) {
        Check.run("PhasesTest", sentences());
    }

    static Sentences sentences() {
        return new Sentences()
            .in("Terms")
            .holds("If the converter runs: let a be the mean current of the cycle before", PhasesTest::cycleBefore)
            .holds("(0 if there was none).", PhasesTest::noCycleBefore)
            .holds("If a is greater than (upper level) * m", PhasesTest::greaterThanTheUpperLevel)
            .holds("and m is less than the number of phases,", PhasesTest::noMoreThanThereAre)
            .holds("the adding count increases by 1, otherwise it becomes 0;", PhasesTest::addingCountBeginsAnew)
            .holds("when it becomes 3, m increases by 1,", PhasesTest::theThirdAdds)
            .holds("and both counts become 0.", PhasesTest::addingClearsBothCounts)
            .holds("If m has not increased by this:", PhasesTest::noSheddingInTheCycleOfAnAdding)
            .holds("if m is greater than 1", PhasesTest::theLastIsNotShed)
            .holds("and a is less than (lower level) * (m - 1),", PhasesTest::lessThanTheLowerLevel)
            .holds("the shedding count increases by 1, otherwise it becomes 0;", PhasesTest::sheddingCountBeginsAnew)
            .holds("when it becomes 5, m decreases by 1,", PhasesTest::theFifthSheds)
            .holds("both counts become 0,", PhasesTest::sheddingClearsBothCounts)
            .holds("and the remaining on-time of the phase that is not active any more becomes 0.",
                PhasesTest::sheddingEndsThePulse);
    }

    /**
     * At an output of 0 each phase has a current of 6000 from its first slot on, active or not: the
     * mean current is known from the second cycle on.
     */
    private static PhaseConverter with6000Each(int phases) {
        PhaseConverter x = Converters.shorted(phases, 2);
        Converters.set(x, 5, 6000, 10, 30000, 11, 0);
        x.start();
        x.run(2);
        Check.same("mean current", x.count(5), 6000 * phases);
        return x;
    }

    /** The same with so many active ones, when both counts are 0. */
    private static PhaseConverter with6000Each(int phases, int active) {
        PhaseConverter x = with6000Each(phases);
        x.set(11, 30000);
        x.run(5 * (phases - active));
        x.set(11, 0);
        Check.same("active phases", x.count(3), active);
        return x;
    }

    private static void runAndSee(String when, PhaseConverter x, int... active) {
        for (int i = 0; i < active.length; i++) {
            x.run(1);
            Check.same(when + ": active phases in cycle " + (i + 1), x.count(3), active[i]);
        }
    }

    private static void cycleBefore() {
        // Cycle 1 has 6000 * 30 / 20 = 9000, which cycle 2 looks at: it is not below 9000.
        PhaseConverter x = Converters.shorted(2, 2);
        Converters.set(x, 5, 6000, 10, 30000, 11, 9000);
        x.start();
        x.run(1);
        Check.same("mean current of cycle 1", x.count(5), 9000);
        runAndSee("only the first cycle was light", x, 2, 2, 2, 2, 2, 2);
        // A cycle in which it did not run counts too: 12000 before, 0 after the output has risen.
        PhaseConverter y = with6000Each(2);
        y.stop();
        y.set(2, 0);
        y.run(40);
        Check.same("no current when off", y.count(5), 0);
        Converters.set(y, 2, 60000, 4, 1, 8, 1, 0, 24000, 6, 0, 7, 0, 11, 1);
        y.run(1);
        Check.same("nor a voltage", y.count(1), 0);
        y.start();
        runAndSee("five cycles after cycles without a current", y, 2, 2, 2, 2, 1);
        // Not when it does not run.
        PhaseConverter z = Converters.begun(2, 11, 30000);
        z.run(20);
        Check.same("off", z.count(3), 2);
        Check.same("changes", z.count(12), 0);
    }

    private static void noCycleBefore() {
        // 1 / 24 of a thousandth: the duty is 0 for so long that there is no current at all.
        PhaseConverter x = Converters.begun(2, 0, 24000, 6, 0, 7, 0, 8, 1, 11, 1);
        x.start();
        runAndSee("0 is below the least level", x, 2, 2, 2, 2, 1);
        PhaseConverter y = Converters.begun(2, 0, 24000, 6, 0, 7, 0, 8, 1, 11, 0);
        y.start();
        runAndSee("0 is not below 0", y, 2, 2, 2, 2, 2, 2, 2);
    }

    private static void greaterThanTheUpperLevel() {
        PhaseConverter x = with6000Each(2, 1);
        x.set(10, 12000);
        runAndSee("12000 is not above 12000 * 1", x, 1, 1, 1, 1, 1);
        x.set(10, 11999);
        runAndSee("it is above 11999 * 1", x, 1, 1, 2);
        PhaseConverter y = with6000Each(4, 3);
        y.set(10, 8000);
        runAndSee("24000 is not above 8000 * 3", y, 3, 3, 3, 3, 3);
        y.set(10, 7999);
        runAndSee("it is above 7999 * 3", y, 3, 3, 4);
        PhaseConverter z = with6000Each(3, 2);
        z.set(10, 9000);
        runAndSee("18000 is not above 9000 * 2", z, 2, 2, 2, 2, 2);
        z.set(10, 8999);
        runAndSee("it is above 8999 * 2", z, 2, 2, 3);
    }

    private static void noMoreThanThereAre() {
        for (int n = 1; n <= 4; n++) {
            PhaseConverter x = with6000Each(n);
            x.set(10, 1);
            x.run(10);
            Check.same("all stay", x.count(3), n);
            Check.same("changes", x.count(12), 0);
        }
        PhaseConverter y = with6000Each(3, 2);
        y.set(10, 1);
        runAndSee("the last one is added", y, 2, 2, 3, 3, 3, 3, 3);
        Check.same("changes", y.count(12), 2);
    }

    private static void addingCountBeginsAnew() {
        PhaseConverter x = with6000Each(2, 1);
        x.set(10, 1);
        runAndSee("two heavy cycles", x, 1, 1);
        x.set(10, 30000);
        runAndSee("one that is not", x, 1);
        x.set(10, 1);
        runAndSee("three in a row", x, 1, 1, 2);
    }

    private static void theThirdAdds() {
        PhaseConverter x = with6000Each(4, 1);
        Check.same("changes", x.count(12), 3);
        int pulses = x.phase(1, 6);
        x.set(10, 1);
        runAndSee("one heavy cycle, and two", x, 1, 1);
        runAndSee("the third", x, 2);
        Check.same("a change", x.count(12), 4);
        Check.same("the added phase begins a pulse in this cycle", x.phase(1, 6), pulses + 1);
        runAndSee("and so on", x, 2, 2, 3, 3, 3, 4, 4, 4);
        Check.same("changes", x.count(12), 6);
    }

    private static void addingClearsBothCounts() {
        // Heavy and light at once: 18000 is above 1 * 2 and below 30000 * 1.
        PhaseConverter x = with6000Each(3, 2);
        Converters.set(x, 10, 1, 11, 30000);
        runAndSee("the third heavy one adds", x, 2, 2, 3);
        runAndSee("the shedding count of 2 was cleared", x, 3, 3, 3, 3, 2);
        // The adding count of 3 was cleared.
        PhaseConverter y = with6000Each(4, 1);
        y.set(10, 1);
        runAndSee("each takes three cycles", y, 1, 1, 2, 2, 2, 3);
    }

    private static void noSheddingInTheCycleOfAnAdding() {
        // If the cycle of the adding counted as light, the fourth cycle after it would shed.
        PhaseConverter x = with6000Each(3, 2);
        x.set(10, 1);
        x.run(2);
        x.set(11, 30000);
        runAndSee("added", x, 3);
        runAndSee("four light cycles", x, 3, 3, 3, 3);
        runAndSee("the fifth", x, 2);
        // Where nothing is added, a heavy cycle is looked at for shedding as well.
        PhaseConverter y = with6000Each(3, 2);
        y.set(11, 30000);
        y.run(3);
        y.set(10, 1);
        runAndSee("heavy for the second time, light for the fifth", y, 2, 1);
    }

    private static void theLastIsNotShed() {
        PhaseConverter x = Converters.shorted(1, 100);
        x.set(11, 30000);
        x.start();
        x.run(20);
        Check.same("one of one", x.count(3), 1);
        Check.same("changes", x.count(12), 0);
        PhaseConverter y = with6000Each(4);
        y.set(11, 30000);
        runAndSee("down to one", y, 4, 4, 4, 4, 3, 3, 3, 3, 3, 2, 2, 2, 2, 2, 1, 1, 1, 1, 1, 1, 1);
        Check.same("changes", y.count(12), 3);
    }

    private static void lessThanTheLowerLevel() {
        PhaseConverter x = with6000Each(4);
        x.set(11, 8000);
        runAndSee("24000 is not below 8000 * 3", x, 4, 4, 4, 4, 4, 4);
        x.set(11, 8001);
        runAndSee("it is below 8001 * 3, and not below 8001 * 2", x, 4, 4, 4, 4, 3, 3, 3, 3, 3, 3);
        x.set(11, 12000);
        runAndSee("24000 is not below 12000 * 2", x, 3, 3, 3, 3, 3, 3);
        x.set(11, 12001);
        runAndSee("it is below 12001 * 2, and not below 12001 * 1", x, 3, 3, 3, 3, 2, 2, 2, 2, 2, 2);
        x.set(11, 24000);
        runAndSee("24000 is not below 24000 * 1", x, 2, 2, 2, 2, 2, 2);
        x.set(11, 24001);
        runAndSee("it is below 24001 * 1", x, 2, 2, 2, 2, 1);
    }

    private static void sheddingCountBeginsAnew() {
        PhaseConverter x = with6000Each(3);
        x.set(11, 30000);
        runAndSee("four light cycles", x, 3, 3, 3, 3);
        x.set(11, 0);
        runAndSee("one that is not", x, 3);
        x.set(11, 30000);
        runAndSee("five in a row", x, 3, 3, 3, 3, 2);
    }

    private static void theFifthSheds() {
        PhaseConverter x = with6000Each(3);
        x.set(11, 30000);
        runAndSee("up to four light cycles", x, 3, 3, 3, 3);
        Check.same("no change yet", x.count(12), 0);
        int pulses = x.phase(2, 6);
        runAndSee("the fifth", x, 2);
        Check.same("a change", x.count(12), 1);
        Check.same("the shed phase begins no pulse in this cycle", x.phase(2, 6), pulses);
        Check.same("the record tells it", x.record(0, 3), 2);
        Check.same("the record before", x.record(1, 3), 3);
    }

    private static void sheddingClearsBothCounts() {
        PhaseConverter x = with6000Each(4);
        x.set(11, 30000);
        runAndSee("each takes five cycles", x, 4, 4, 4, 4, 3, 3, 3, 3, 3, 2);
        // Heavy for the second time in the cycle that sheds: three more are needed.
        PhaseConverter y = with6000Each(3, 2);
        y.set(11, 30000);
        y.run(3);
        y.set(10, 1);
        runAndSee("shed", y, 2, 1);
        runAndSee("the adding count of 2 was cleared", y, 1, 1, 2);
    }

    private static void sheddingEndsThePulse() {
        PhaseConverter x = Converters.shorted(2, 100);
        Converters.set(x, 5, 30000, 11, 30000);
        x.start();
        x.run(4);
        Check.same("phase 1 is on", x.phase(1, 1), 8);
        int slots = x.phase(1, 3);
        int current = x.phase(1, 0);
        x.run(1);
        Check.same("active phases", x.count(3), 1);
        Check.same("its pulse has ended", x.phase(1, 1), 0);
        Check.same("it was on in no slot more", x.phase(1, 3), slots);
        Check.same("its current stays", x.phase(1, 0), current);
        // The pulses of the others go on.
        PhaseConverter y = Converters.shorted(3, 100);
        Converters.set(y, 5, 30000, 11, 30000);
        y.start();
        y.run(4);
        Check.same("phase 1 is on", y.phase(1, 1), 4);
        slots = y.phase(1, 3);
        y.run(1);
        Check.same("active phases", y.count(3), 2);
        Check.same("4 slots of its pulse, and 10 of the one that begins in slot 10", y.phase(1, 3), slots + 14);
    }
}
