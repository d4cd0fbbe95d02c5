/** Promises 7, 11, 15, 16 and 17 at the end of the 100000 cycles. */
public final class LimitTest {
    public static void main(String[] args) {
        PhaseConverter x = new PhaseConverter();
        x.start();
        for (int i = 0; i < 500; i++) {
            x.run(200);
        }
        refuse(x, 1, IllegalStateException.class);
        // The first class of the throws clause wins.
        refuse(x, 0, IllegalArgumentException.class);
        refuse(x, 201, IllegalArgumentException.class);
        Check.same("play of r1", Check.play(x, "r1"), 0);
        Check.same("cycles", x.count(4), 100000);
        Check.same("settles(5000)", x.settles(5000), 1);
        Check.same("begin(2)", x.begin(2), 2);
        Check.same("run(200) after begin", x.run(200), 0);
        Check.same("cycles after begin", x.count(4), 200);
        lookAhead();
        Check.end("LimitTest");
    }

    private static void refuse(PhaseConverter x, int cycles, Class<?> due) {
        String got = "nothing";
        try {
            x.run(cycles);
        } catch (RuntimeException e) {
            got = e.getClass().getName();
        }
        Check.same("run(" + cycles + ") throws " + got, got.equals(due.getName()) ? 1 : 0, 1);
    }

    /** Off and without a load the cycles change nothing, so the answers ahead are known. */
    private static void lookAhead() {
        PhaseConverter x = new PhaseConverter();
        for (int i = 0; i < 500; i++) {
            x.run(200);
        }
        Check.same("ifLoaded at the limit", x.ifLoaded(0, 100, 0), 0);
        Check.same("settles at the limit", x.settles(0), PhaseConverter.NONE);
        Check.same("greatestLoad(0) at the limit", x.greatestLoad(0), 20000);
        Check.same("greatestLoad(1) at the limit", x.greatestLoad(1), PhaseConverter.NONE);
        Check.same("cycles stay", x.count(4), 100000);
    }
}
