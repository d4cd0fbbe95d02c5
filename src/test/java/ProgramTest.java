/** Promises 8 to 11: append, clearBuffer, firstError, play. */
public final class ProgramTest {
    private static final Class<IllegalArgumentException> ARGUMENT = IllegalArgumentException.class;
    private static final Class<IllegalStateException> STATE = IllegalStateException.class;

    public static void main(String[] args) {
        promise8Append();
        promise9ClearBuffer();
        promise10FirstError();
        promise10EveryCharacter();
        promise11Play();
        promise11StopsAtTheFirstImpossibleItem();
        promise11Refuses();
        Check.end("ProgramTest");
    }

    private static void promise8Append() {
        PhaseConverter x = new PhaseConverter();
        for (int code : new int[] {32, 127, 0, -1, 10, 161, Integer.MIN_VALUE, Integer.MAX_VALUE}) {
            Check.refuses("append(" + code + ")", x, ARGUMENT, () -> x.append(code));
        }
        Check.same("append(33)", x.append(33), 1);
        Check.same("append(126)", x.append(126), 2);
        for (int i = 3; i <= 50; i++) {
            Check.same("append", x.append('s'), i);
        }
        Check.refuses("append at 50", x, STATE, () -> x.append('s'));
        Check.refuses("append of a wrong code at 50", x, ARGUMENT, () -> x.append(32));
        Check.refuses("append of a wrong code at 50", x, ARGUMENT, () -> x.append(127));
        Check.same("clearBuffer", x.clearBuffer(), 50);
        Check.same("append after it", x.append('s'), 1);
    }

    private static void promise9ClearBuffer() {
        PhaseConverter x = new PhaseConverter();
        long empty = x.digest();
        Check.type(x, "r5,s");
        Check.same("clearBuffer", x.clearBuffer(), 4);
        Check.same("digest", x.digest(), empty);
        Check.same("clearBuffer again", x.clearBuffer(), 0);
        Check.same("nothing was carried out", x.count(4), 0);
    }

    private static void firstError(String text, int due) {
        PhaseConverter x = new PhaseConverter();
        Check.type(x, text);
        Check.asks("firstError of " + text, x, due, x::firstError);
        Check.same("the buffer stays", x.clearBuffer(), text.length());
    }

    private static void promise10FirstError() {
        firstError("", 0);
        firstError("s", 1);
        firstError("x", 1);
        firstError("s,", 2);
        firstError(",", 0);
        firstError("s,,", 2);
        firstError("ss", 1);
        firstError("s1", 1);
        firstError("x0", 1);
        firstError("q", 0);
        firstError("S", 0);
        firstError("5", 0);
        firstError("r", 1);
        firstError("r,", 1);
        firstError("rr", 1);
        firstError("r-1", 1);
        firstError("r0", 2);
        firstError("r00", 2);
        firstError("r01", 2);
        firstError("r0,", 3);
        firstError("r1", 2);
        firstError("r10000", 6);
        firstError("r99999", 6);
        firstError("r123456", 6);
        firstError("r12345,", 7);
        firstError("r12s", 3);
        firstError("i1,t2,l3,c4,r5,s,x", 18);
        firstError("i1,t2,l3,c4,r5,s,x,", 19);
        firstError("i1,t2,l3,c4,r5,s,x,y?", 19);
        firstError("?q", 0);
        firstError("s,r1,s1,??", 6);
        firstError("i12000,t3300,l1000,c8000,r200,s,x,i12000,t3300,l10", 50);
        firstError("i12000,t3300,l1000,c8000,r200,s,x,i12000,t3300,l0,", 50);
        firstError("i12000,t3300,l1000,c8000,r200,s,x,i12000,t3300,l00", 49);
    }

    /** Each character behind each kind of beginning. */
    private static void promise10EveryCharacter() {
        String[] heads = {"", "s", "x", "r", "i", "r0", "t7", "l12", "c123", "r1234", "i12345", "s,", "r5,"};
        String letters = "sxitlcr";
        String[] follow = {letters, ",", ",", "0123456789", "0123456789", ",", ",0123456789", ",0123456789",
            ",0123456789", ",0123456789", ",", letters, letters};
        for (int h = 0; h < heads.length; h++) {
            for (int code = 33; code <= 126; code++) {
                PhaseConverter x = new PhaseConverter();
                Check.type(x, heads[h]);
                x.append(code);
                int due = heads[h].length() + (follow[h].indexOf(code) >= 0 ? 1 : 0);
                Check.same("firstError of " + heads[h] + (char) code, x.firstError(), due);
            }
        }
    }

    private static void promise11Play() {
        PhaseConverter x = new PhaseConverter();
        PhaseConverter y = new PhaseConverter();
        Check.same("play", Check.play(x, "i9000,t1200,l80,c600,s,r20,x,r3"), 8);
        y.set(0, 9000);
        y.set(1, 1200);
        y.set(2, 80);
        y.set(5, 600);
        y.start();
        y.run(20);
        y.stop();
        y.run(3);
        Check.same("a program does what its calls do", x.digest(), y.digest());
        Check.same("input voltage", x.setting(0), 9000);
        Check.same("target voltage", x.setting(1), 1200);
        Check.same("load current", x.setting(2), 80);
        Check.same("current limit", x.setting(5), 600);
        Check.same("cycles", x.count(4), 23);
        Check.same("the buffer is cleared", x.clearBuffer(), 0);
        Check.same("play of one item", Check.play(x, "x"), 1);
        Check.same("play of the last item without a comma", Check.play(x, "r1,r2"), 2);
        Check.same("cycles", x.count(4), 26);
        Check.same("play of s", Check.play(x, "s"), 1);
        Check.same("mode", x.count(0), 1);
        String full = "r1,r1,r1,r1,r1,r1,r1,r1,r1,r1,r1,r1,r1,r1,r1,x,r20";
        Check.same("play of 50 characters", Check.play(x, full), 17);
        Check.same("cycles", x.count(4), 61);
    }

    private static void stopsAt(String text, int due) {
        PhaseConverter x = new PhaseConverter();
        Check.same("play of " + text, Check.play(x, text), due);
        Check.same("the buffer is cleared after " + text, x.clearBuffer(), 0);
    }

    private static void promise11StopsAtTheFirstImpossibleItem() {
        stopsAt("s,s,r5", 1);
        stopsAt("s,x,s,x,x", 5);
        stopsAt("r0", 0);
        stopsAt("r201", 0);
        stopsAt("r200,r1", 2);
        stopsAt("i999", 0);
        stopsAt("i1000,i24000,i24001", 2);
        stopsAt("t499", 0);
        stopsAt("t500,t12000,t12001", 2);
        stopsAt("l0,l60000,l60001", 2);
        stopsAt("c99", 0);
        stopsAt("c100,c30000,c30001", 2);
        stopsAt("i99999,x", 0);
        PhaseConverter x = new PhaseConverter();
        Check.same("play", Check.play(x, "l5,r2,t0,l7,r9"), 2);
        Check.same("what came before stands", x.setting(2), 5);
        Check.same("nothing behind it is carried out", x.count(4), 2);
        Check.same("the impossible item changes nothing", x.setting(1), 3300);
        Check.same("a starved converter can be started again", Check.play(x, "i3999,s,r1,s,r1,s"), 6);
    }

    private static void promise11Refuses() {
        String[] texts = {"", ",", "s,", "r", "s,r", "r1,", "q", "r01", "r123456", "s1", "s,,s", "x;x", "r5,l"};
        for (String text : texts) {
            PhaseConverter x = new PhaseConverter();
            Check.type(x, text);
            Check.refuses("play of " + text, x, ARGUMENT, x::play);
            Check.same("the buffer stays", x.clearBuffer(), text.length());
        }
    }
}
