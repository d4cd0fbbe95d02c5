/** Promises 1 to 7: a new object, begin, set, setting, start, stop, run. */
public final class SettingsTest {
    static final int[] LEAST = {1000, 500, 0, 1, 1, 100, 0, 0, 1, 0, 1, 0, 500, 0, 0};
    static final int[] GREATEST =
        {24000, 12000, 60000, 100, 500, 30000, 500, 500, 2000, 10000, 30000, 30000, 30000, 24000, 1000};
    static final int[] AT_FIRST =
        {12000, 3300, 1000, 20, 50, 8000, 50, 20, 100, 300, 3000, 1000, 5000, 4000, 100};

    private static final Class<IllegalArgumentException> ARGUMENT = IllegalArgumentException.class;
    private static final Class<IllegalStateException> STATE = IllegalStateException.class;
    private static final Class<IndexOutOfBoundsException> INDEX = IndexOutOfBoundsException.class;

    public static void main(String[] args) {
        promise1NewObject();
        promise2Begin();
        promise2BeginRefuses();
        promise3And4Settings();
        promise3And4Refuse();
        promise5Start();
        promise5StartFromAVoltage();
        promise5StartMakesAllPhasesActive();
        promise6Stop();
        promise7Run();
        promise7Limit();
        Check.end("SettingsTest");
    }

    /** The digest that a converter has after begin(phases), by the document's list. */
    static long freshDigest(int phases, String buffer) {
        long hash = 2017;
        int[] counts = {0, 0, 0, phases, 0, 0, 0, 0, 0, 0, 0, 0, 0, phases, 0};
        for (int value : counts) {
            hash = 31 * hash + value;
        }
        for (int value : AT_FIRST) {
            hash = 31 * hash + value;
        }
        for (int i = 0; i < 7 * phases; i++) {
            hash = 31 * hash;
        }
        hash = 31 * hash - 1;
        hash = 31 * hash;
        hash = 31 * hash + buffer.length();
        for (int i = 0; i < buffer.length(); i++) {
            hash = 31 * hash + buffer.charAt(i);
        }
        return hash;
    }

    static void isFresh(String when, PhaseConverter x, int phases, String buffer) {
        Check.counts(when, x, 0, 0, 0, phases, 0, 0, 0, 0, 0, 0, 0, 0, 0, phases, 0);
        for (int p = 0; p < phases; p++) {
            Check.phase(when, x, p, 0, 0, 0, 0, 0, 0, 0);
        }
        for (int i = 0; i < 15; i++) {
            Check.same(when + ": setting(" + i + ")", x.setting(i), AT_FIRST[i]);
        }
        Check.same(when + ": digest", x.digest(), freshDigest(phases, buffer));
        Check.sameDouble(when + ": meanVoltage", x.meanVoltage(), 0.0);
        Check.same(when + ": unbalance", x.unbalance(), 0);
    }

    private static void promise1NewObject() {
        PhaseConverter x = new PhaseConverter();
        Check.same("NONE", PhaseConverter.NONE, -1);
        isFresh("a new object", x, 2, "");
        Check.same("a new buffer's length", x.clearBuffer(), 0);
        Check.refuses("phase(2, 0) of a new object", x, INDEX, () -> x.phase(2, 0));
    }

    /** Changes all that can be changed, so that begin has something to undo. */
    private static void disturb(PhaseConverter x) {
        x.set(5, 1000);
        x.set(2, 20);
        x.set(10, 1);
        x.start();
        x.run(40);
        x.set(11, 30000);
        x.run(9);
        x.set(14, 7);
    }

    private static void promise2Begin() {
        PhaseConverter x = new PhaseConverter();
        int previous = 2;
        for (int phases = 4; phases >= 1; phases--) {
            disturb(x);
            Check.same("begin(" + phases + ")", x.begin(phases), previous);
            isFresh("after begin(" + phases + ")", x, phases, "");
            previous = phases;
        }
        Check.type(x, "s,?");
        Check.same("begin(3) with a buffer", x.begin(3), 1);
        isFresh("after begin with a buffer", x, 3, "s,?");
        Check.same("the buffer stays", x.clearBuffer(), 3);
        // What begin forgets must not come back in the cycles that follow.
        PhaseConverter used = new PhaseConverter();
        disturb(used);
        used.begin(4);
        PhaseConverter fresh = new PhaseConverter();
        fresh.begin(4);
        for (PhaseConverter each : new PhaseConverter[] {used, fresh}) {
            each.set(2, 9000);
            each.run(2);
            each.start();
            each.run(30);
        }
        Check.same("a used converter after begin goes as a new one", used.digest(), fresh.digest());
    }

    private static void promise2BeginRefuses() {
        PhaseConverter x = new PhaseConverter();
        x.start();
        x.run(30);
        for (int phases : new int[] {0, 5, -1, 8, Integer.MIN_VALUE, Integer.MAX_VALUE}) {
            Check.refuses("begin(" + phases + ")", x, ARGUMENT, () -> x.begin(phases));
        }
        Check.same("phases after refused begins", x.count(13), 2);
    }

    private static void promise3And4Settings() {
        PhaseConverter x = new PhaseConverter();
        for (int i = 0; i < 15; i++) {
            Check.same("set(" + i + ", least)", x.set(i, LEAST[i]), AT_FIRST[i]);
            Check.same("setting(" + i + ")", x.setting(i), LEAST[i]);
            Check.same("set(" + i + ", greatest)", x.set(i, GREATEST[i]), LEAST[i]);
            Check.same("setting(" + i + ")", x.setting(i), GREATEST[i]);
            Check.same("set(" + i + ", at first)", x.set(i, AT_FIRST[i]), GREATEST[i]);
        }
        isFresh("after all settings were set back", x, 2, "");
        x.start();
        x.run(3);
        Check.same("set while it runs", x.set(1, 500), 3300);
        Check.same("setting while it runs", x.setting(1), 500);
    }

    private static void promise3And4Refuse() {
        PhaseConverter x = new PhaseConverter();
        for (int i : new int[] {-1, 15, 16, Integer.MIN_VALUE, Integer.MAX_VALUE}) {
            Check.refuses("set(" + i + ", 1000)", x, INDEX, () -> x.set(i, 1000));
            Check.refuses("set(" + i + ", -1)", x, INDEX, () -> x.set(i, -1));
            Check.refuses("setting(" + i + ")", x, INDEX, () -> x.setting(i));
        }
        for (int i = 0; i < 15; i++) {
            int setting = i;
            int[] values = {LEAST[i] - 1, GREATEST[i] + 1, Integer.MIN_VALUE, Integer.MAX_VALUE};
            for (int value : values) {
                Check.refuses("set(" + i + ", " + value + ")", x, ARGUMENT, () -> x.set(setting, value));
            }
        }
    }

    private static void promise5Start() {
        PhaseConverter x = new PhaseConverter();
        x.begin(1);
        Check.same("start()", x.start(), 0);
        Check.counts("after start", x, 1, 0, 0, 1, 0, 0, 0, 0);
        Check.refuses("start() in mode 1", x, STATE, x::start);
        x.run(60);
        Check.same("mode after the ramp", x.count(0), 2);
        Check.refuses("start() in mode 2", x, STATE, x::start);
        x.stop();
        int duty = x.count(7);
        int mean = x.count(5);
        Check.same("start() again", x.start(), x.count(1));
        Check.same("start leaves the duty", x.count(7), duty);
        Check.same("start leaves the mean current", x.count(5), mean);
        Check.same("start clears the integral", x.count(6), 0);
        Check.same("start clears the rest", x.phase(0, 2), 0);
    }

    private static void promise5StartFromAVoltage() {
        PhaseConverter x = new PhaseConverter();
        x.set(2, 0);
        x.start();
        x.run(40);
        x.stop();
        int voltage = x.run(1);
        Check.same("the output holds without a load", voltage > 3000 ? 1 : 0, 1);
        x.set(1, 12000);
        Check.same("start from a voltage", x.start(), voltage);
        Check.same("present target after start", x.count(2), voltage);
        x.run(1);
        Check.same("present target ramps from there", x.count(2), voltage + 100);
        Check.same("it is ramping", x.count(0), 1);
        // From above the target the ramp ends in its first cycle.
        x.stop();
        x.set(1, 500);
        x.start();
        x.run(1);
        Check.same("a lower target is reached at once", x.count(2), 500);
        Check.same("it is regulating", x.count(0), 2);
    }

    private static void promise5StartMakesAllPhasesActive() {
        PhaseConverter x = new PhaseConverter();
        x.begin(4);
        x.set(2, 0);
        x.set(11, 30000);
        x.start();
        x.run(15);
        Check.same("three were shed", x.count(3), 1);
        Check.same("changes", x.count(12), 3);
        x.stop();
        Check.same("stop leaves the active phases", x.count(3), 1);
        x.start();
        Check.same("all active again", x.count(3), 4);
        Check.same("start is no counted change", x.count(12), 3);
        for (int p = 0; p < 4; p++) {
            Check.same("rest of phase " + p, x.phase(p, 2), 0);
        }
        // The shedding count begins anew with start: 5 more cycles, not fewer.
        x.run(4);
        Check.same("four light cycles shed nothing", x.count(3), 4);
        x.stop();
        x.start();
        x.run(4);
        Check.same("the count was cleared by start", x.count(3), 4);
        x.run(1);
        Check.same("the fifth sheds", x.count(3), 3);
    }

    private static void promise6Stop() {
        PhaseConverter x = new PhaseConverter();
        Check.same("stop() when off", x.stop(), 0);
        x.start();
        Check.same("stop() when ramping", x.stop(), 1);
        x.set(2, 60000);
        x.set(3, 100);
        x.set(8, 2000);
        x.start();
        x.run(3);
        Check.same("a pulse is on between the cycles", x.phase(1, 1) > 0 ? 1 : 0, 1);
        int integral = x.count(6);
        int duty = x.count(7);
        int rest = x.phase(1, 2);
        Check.same("stop() when regulating", x.stop(), 2);
        Check.same("mode", x.count(0), 0);
        Check.same("on-time of phase 0", x.phase(0, 1), 0);
        Check.same("on-time of phase 1", x.phase(1, 1), 0);
        Check.same("the integral stays", x.count(6), integral);
        Check.same("the duty stays", x.count(7), duty);
        Check.same("the rest stays", x.phase(1, 2), rest);
        Check.same("the present target stays", x.count(2), 3300);
        x.set(0, 3999);
        x.start();
        x.run(1);
        Check.same("stop() when starved", x.stop(), 4);
        Check.same("mode", x.count(0), 0);
        PhaseConverter y = new PhaseConverter();
        y.set(12, 500);
        y.set(2, 0);
        y.start();
        y.run(20);
        Check.same("stop() when tripped", y.stop(), 3);
        Check.same("stop() once more", y.stop(), 0);
    }

    private static void promise7Run() {
        PhaseConverter x = new PhaseConverter();
        Check.same("run(1) when off", x.run(1), 0);
        Check.counts("a cycle when off", x, 0, 0, 0, 2, 1, 0, 0, 0, 0, 0, 0, 0, 0, 2, 1);
        x.start();
        Check.same("run(200) answers the voltage", x.run(200), x.count(1));
        Check.same("cycles", x.count(4), 201);
        for (int cycles : new int[] {0, -1, 201, Integer.MIN_VALUE, Integer.MAX_VALUE}) {
            Check.refuses("run(" + cycles + ")", x, ARGUMENT, () -> x.run(cycles));
        }
        // Many cycles in one call are as many calls of one cycle.
        PhaseConverter once = new PhaseConverter();
        PhaseConverter often = new PhaseConverter();
        once.start();
        often.start();
        once.run(57);
        for (int i = 0; i < 57; i++) {
            often.run(1);
        }
        Check.same("run(57) is 57 times run(1)", once.digest(), often.digest());
    }

    private static void promise7Limit() {
        PhaseConverter x = new PhaseConverter();
        x.start();
        for (int i = 0; i < 499; i++) {
            x.run(200);
        }
        x.run(199);
        Check.same("cycles", x.count(4), 99999);
        Check.refuses("run(2) at 99999", x, STATE, () -> x.run(2));
        Check.same("run(1) at 99999", x.run(1), x.count(1));
        Check.same("cycles", x.count(4), 100000);
    }
}
