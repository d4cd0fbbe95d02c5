import java.io.IOException;
import java.io.UncheckedIOException;
import java.nio.file.Files;
import java.nio.file.Path;

/** The constants, and what the text of the class says ahead of its calls. */
public final class FaceTest {
    private static final Path SOURCE = Path.of("src/main/java/PhaseConverter.java");

    public static void main(String[] args) {
        Check.run("FaceTest", sentences());
    }

    static Sentences sentences() {
        return new Sentences()
            .in("Terms")
            .holds("The constants: NONE = -1: There is nothing to return.", FaceTest::none)
            .holds("Ahead of the calls begin, set, setting, start, stop, run the interface says: "
                + "---- settings and modes.", FaceTest::settingsAndModes)
            .holds("Ahead of the calls append, clearBuffer, firstError, play the interface says: ---- programs.",
                FaceTest::programs)
            .holds("Ahead of the calls count, phase, record, ifLoaded, settles, greatestLoad, unbalance, meanVoltage, "
                + "digest the interface says: ---- questions.", FaceTest::questions);
    }

    private static void none() {
        Check.same("NONE", PhaseConverter.NONE, -1);
        Check.same("settles", new PhaseConverter().settles(0), PhaseConverter.NONE);
        Check.same("greatestLoad", new PhaseConverter().greatestLoad(1), PhaseConverter.NONE);
    }

    private static void settingsAndModes() {
        standAfter("// ---- settings and modes\n", "begin", "set", "setting", "start", "stop", "run");
    }

    private static void programs() {
        standAfter("// ---- programs\n", "append", "clearBuffer", "firstError", "play");
    }

    private static void questions() {
        standAfter("// ---- questions\n", "count", "phase", "record", "ifLoaded", "settles", "greatestLoad", "unbalance",
            "meanVoltage", "digest");
    }

    /** The calls stand in this order between this line and the next one of its kind. */
    private static void standAfter(String line, String... calls) {
        String source = source();
        int at = source.indexOf(line);
        Check.yes("the class has the line " + line, at >= 0);
        int next = source.indexOf("// ---- ", at + line.length());
        for (String call : calls) {
            int found = Math.max(source.indexOf(" int " + call + "("),
                Math.max(source.indexOf(" double " + call + "("), source.indexOf(" long " + call + "(")));
            Check.yes(call + " stands there", found > at && found < next);
            at = found;
        }
    }

    private static String source() {
        try {
            return Files.readString(SOURCE);
        } catch (IOException e) {
            throw new UncheckedIOException(e);
        }
    }
}
