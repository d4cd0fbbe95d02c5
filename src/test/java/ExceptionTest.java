import java.util.ArrayList;
import java.util.List;

/** The terms "Exceptions.", for all calls that can throw. */
public final class ExceptionTest {
    /** A call that must throw this class. */
    private record Refused(String name, Class<? extends RuntimeException> due, Check.Call call) {
    }

    public static void main(String[] args) {
        Check.run("ExceptionTest", sentences());
    }

    static Sentences sentences() {
        return new Sentences()
            .in("Terms")
            .holds("A call that throws an exception changes nothing.", ExceptionTest::nothingIsChanged)
            .holds("If several exceptions apply, the one that is named first in the throws clause is thrown.",
                ExceptionTest::theFirstNamed);
    }

    /** All ways in which a call of a running converter with a full buffer can throw. */
    private static List<Refused> allRefused(PhaseConverter x) {
        List<Refused> all = new ArrayList<>();
        all.add(new Refused("begin(0)", Check.ARGUMENT, () -> x.begin(0)));
        all.add(new Refused("begin(5)", Check.ARGUMENT, () -> x.begin(5)));
        all.add(new Refused("set(15, 0)", Check.INDEX, () -> x.set(15, 0)));
        all.add(new Refused("set(-1, 0)", Check.INDEX, () -> x.set(-1, 0)));
        for (int i = 0; i < SettingsTest.SETTINGS; i++) {
            int setting = i;
            all.add(new Refused("set(" + i + ", too great)", Check.ARGUMENT,
                () -> x.set(setting, SettingsTest.GREATEST[setting] + 1)));
            all.add(new Refused("set(" + i + ", too small)", Check.ARGUMENT,
                () -> x.set(setting, SettingsTest.LEAST[setting] - 1)));
        }
        all.add(new Refused("setting(15)", Check.INDEX, () -> x.setting(15)));
        all.add(new Refused("start()", Check.STATE, x::start));
        all.add(new Refused("run(0)", Check.ARGUMENT, () -> x.run(0)));
        all.add(new Refused("run(201)", Check.ARGUMENT, () -> x.run(201)));
        all.add(new Refused("append(32)", Check.ARGUMENT, () -> x.append(32)));
        all.add(new Refused("append(127)", Check.ARGUMENT, () -> x.append(127)));
        all.add(new Refused("append('s')", Check.STATE, () -> x.append('s')));
        all.add(new Refused("play()", Check.ARGUMENT, x::play));
        all.add(new Refused("count(15)", Check.ARGUMENT, () -> x.count(15)));
        all.add(new Refused("phase(9, 0)", Check.INDEX, () -> x.phase(9, 0)));
        all.add(new Refused("phase(0, 9)", Check.ARGUMENT, () -> x.phase(0, 9)));
        all.add(new Refused("record(99, 0)", Check.INDEX, () -> x.record(99, 0)));
        all.add(new Refused("record(0, 9)", Check.ARGUMENT, () -> x.record(0, 9)));
        all.add(new Refused("ifLoaded(-1, 1, 0)", Check.ARGUMENT, () -> x.ifLoaded(-1, 1, 0)));
        all.add(new Refused("ifLoaded(0, 0, 0)", Check.ARGUMENT, () -> x.ifLoaded(0, 0, 0)));
        all.add(new Refused("ifLoaded(0, 1, 6)", Check.ARGUMENT, () -> x.ifLoaded(0, 1, 6)));
        all.add(new Refused("settles(-1)", Check.ARGUMENT, () -> x.settles(-1)));
        all.add(new Refused("greatestLoad(40001)", Check.ARGUMENT, () -> x.greatestLoad(40001)));
        return all;
    }

    /** Its next cycle sheds a phase; its buffer is full, but no complete program. */
    private static PhaseConverter beforeAShedding() {
        PhaseConverter x = Converters.shorted(3, 100);
        Converters.set(x, 5, 100, 11, 30000);
        x.start();
        x.run(4);
        Converters.type(x, Converters.FULL_PROGRAM.substring(1) + ",");
        return x;
    }

    private static void nothingIsChanged() {
        PhaseConverter twin = beforeAShedding();
        twin.run(1);
        Check.same("the next cycle sheds", twin.count(3), 2);
        for (int i = 0; i < allRefused(beforeAShedding()).size(); i++) {
            PhaseConverter x = beforeAShedding();
            Refused refused = allRefused(x).get(i);
            Check.refuses(refused.name(), x, refused.due(), refused.call());
            Check.same("the duty after " + refused.name(), x.count(7), 900);
            // What no question shows is as it was, too.
            x.run(1);
            Check.same("a cycle after " + refused.name(), x.digest(), twin.digest());
        }
        atTheCycleLimit();
    }

    private static void atTheCycleLimit() {
        PhaseConverter x = new PhaseConverter();
        x.start();
        Converters.runOften(x, 499, 200);
        x.run(101);
        Check.refuses("run(100) with 99 left", x, Check.STATE, () -> x.run(100));
        Check.same("cycles", x.count(4), 99901);
    }

    private static void theFirstNamed() {
        PhaseConverter x = Converters.running(2, 1000, 20);
        for (int setting : new int[] {-1, 15}) {
            Check.refuses("set: no such setting, and out of every range", x, Check.INDEX, () -> x.set(setting, -1));
            Check.refuses("set: no such setting, and out of every range", x, Check.INDEX,
                () -> x.set(setting, Integer.MAX_VALUE));
        }
        for (int what : new int[] {-1, 7}) {
            Check.refuses("phase: neither the phase nor what", x, Check.INDEX, () -> x.phase(2, what));
            Check.refuses("phase: neither the phase nor what", x, Check.INDEX, () -> x.phase(-1, what));
        }
        for (int what : new int[] {-1, 6}) {
            Check.refuses("record: neither the record nor what", x, Check.INDEX, () -> x.record(16, what));
            Check.refuses("record: neither the record nor what", x, Check.INDEX, () -> x.record(-1, what));
        }
        PhaseConverter none = new PhaseConverter();
        Check.refuses("record: none at all, nor what", none, Check.INDEX, () -> none.record(0, 6));
        PhaseConverter full = new PhaseConverter();
        Converters.type(full, Converters.FULL_PROGRAM);
        for (int code : new int[] {32, 127, 0, -1}) {
            Check.refuses("append: a wrong code, and no room", full, Check.ARGUMENT, () -> full.append(code));
        }
        runAtTheCycleLimit();
    }

    private static void runAtTheCycleLimit() {
        PhaseConverter x = new PhaseConverter();
        Converters.runOften(x, 500, 200);
        for (int cycles : new int[] {0, 201, -1, Integer.MAX_VALUE, Integer.MIN_VALUE}) {
            Check.throwing("run(" + cycles + "): out of range, and too many", Check.ARGUMENT, () -> x.run(cycles));
        }
        Check.throwing("run(1): too many", Check.STATE, () -> x.run(1));
    }
}
