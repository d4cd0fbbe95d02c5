import java.util.Random;

/** Chance runs of calls: every answer and exception of the class is compared with the model's. */
public final class ModelTest {
    private static final int RUNS = 700;
    private static final int CALLS = 500;
    private static final int METHODS = 19;
    private static final String CODES = "sx,itlcr0123456789";
    private static final String[] PROGRAMS = {"s,r20", "x,s,r3", "r200", "l0,r9,l9000,r9", "i3000,r1,i12000,s",
        "t1800,r4", "c600,r12,c8000", "s,s", "r0", "r201", "i999", "t12000,r30,t500,r2", "x", "s,x,r1,q", "r5,"};

    private final Random random;
    private final PhaseConverter x = new PhaseConverter();
    private final Model model = new Model();
    private int left = CALLS;
    private String name = "";

    private ModelTest(long seed) {
        random = new Random(seed);
    }

    public static void main(String[] args) {
        for (int seed = 1; seed <= RUNS && Check.wrongSoFar() == 0; seed++) {
            new ModelTest(seed).go(seed);
        }
        Check.end("ModelTest");
    }

    private void go(int seed) {
        if (seed % 3 != 0) {
            setUp(seed);
        }
        while (left > 80 && Check.wrongSoFar() == 0) {
            step();
        }
        lookAtAll();
    }

    /** Most runs begin with settings far from the first ones, and running. */
    private void setUp(int seed) {
        call(0, between(1, 4), 0, 0);
        for (int i = 0; i < 15; i++) {
            if (random.nextInt(3) == 0) {
                call(1, i, value(i), 0);
            }
        }
        call(3, 0, 0, 0);
    }

    private int between(int low, int high) {
        return low + random.nextInt(high - low + 1);
    }

    /** A value of a setting: near its first one, near a bound, anywhere, or out of its range. */
    private int value(int setting) {
        int low = SettingsTest.LEAST[setting];
        int high = SettingsTest.GREATEST[setting];
        switch (random.nextInt(8)) {
            case 0: return low;
            case 1: return high;
            case 2: return between(low - 1, low + 3);
            case 3: return between(high - 3, high + 1);
            case 4: return between(low, high);
            default: return Math.min(high, Math.max(low, SettingsTest.AT_FIRST[setting] * between(1, 40) / 10));
        }
    }

    /** A number that may be far out of every range, or within some. */
    private int wild() {
        int[] all = {Integer.MIN_VALUE, Integer.MIN_VALUE + 1, -1, 0, 1, 2, 33, 50, Integer.MAX_VALUE - 1,
            Integer.MAX_VALUE, random.nextInt()};
        return all[random.nextInt(all.length)];
    }

    private void step() {
        if (random.nextInt(25) == 0) {
            call(random.nextInt(METHODS), wild(), wild(), wild());
            return;
        }
        int kind = random.nextInt(100);
        if (kind < 3) {
            call(0, between(0, 5), 0, 0);
        } else if (kind < 20) {
            int setting = between(-1, 15);
            call(1, setting, setting < 0 || setting > 14 ? between(-5, 5) : value(setting), 0);
        } else if (kind < 22) {
            call(2, between(-1, 15), 0, 0);
        } else if (kind < 32) {
            call(3, 0, 0, 0);
        } else if (kind < 34) {
            call(4, 0, 0, 0);
        } else if (kind < 60) {
            call(5, random.nextInt(8) == 0 ? between(0, 201) : between(1, 12), 0, 0);
        } else if (kind < 66) {
            call(6, random.nextInt(12) == 0 ? between(30, 130) : CODES.charAt(between(0, CODES.length() - 1)), 0, 0);
        } else if (kind < 67) {
            call(7, 0, 0, 0);
        } else if (kind < 71) {
            call(8, 0, 0, 0);
        } else if (kind < 73) {
            typeAndPlay();
        } else {
            ask(kind);
        }
    }

    private void typeAndPlay() {
        if (random.nextInt(4) != 0) {
            call(7, 0, 0, 0);
        }
        String text = PROGRAMS[between(0, PROGRAMS.length - 1)];
        for (int i = 0; i < text.length(); i++) {
            call(6, text.charAt(i), 0, 0);
        }
        call(8, 0, 0, 0);
        call(9, 0, 0, 0);
    }

    private void ask(int kind) {
        if (kind < 79) {
            call(10, between(-1, 15), 0, 0);
        } else if (kind < 85) {
            call(11, between(-1, 4), between(-1, 7), 0);
        } else if (kind < 90) {
            call(12, between(-1, 17), between(-1, 6), 0);
        } else if (kind < 94) {
            call(13, value(2), random.nextInt(4) == 0 ? between(0, 101) : between(1, 9), between(-1, 6));
        } else if (kind < 96) {
            call(14, random.nextInt(5) == 0 ? between(-1, 5001) : between(0, 300), 0, 0);
        } else if (kind < 97) {
            int present = (int) model.v;
            call(15, random.nextInt(4) == 0 ? between(-1, 40001) : Math.max(0, present - between(-50, 900)), 0, 0);
        } else if (kind < 98) {
            call(16, 0, 0, 0);
        } else if (kind < 99) {
            call(17, 0, 0, 0);
        } else {
            call(18, 0, 0, 0);
        }
    }

    private void lookAtAll() {
        for (int what = 0; what < 15; what++) {
            call(10, what, 0, 0);
        }
        for (int p = 0; p < model.n; p++) {
            for (int what = 0; what < 7; what++) {
                call(11, p, what, 0);
            }
        }
        call(18, 0, 0, 0);
    }

    private void call(int method, int a, int b, int c) {
        left--;
        String due = answer(method, a, b, c, true);
        String got = answer(method, a, b, c, false);
        Check.same(name + "(" + a + ", " + b + ", " + c + ") with " + left + " calls left answered " + got
            + ", due is " + due, got.equals(due) ? 1 : 0, 1);
    }

    private String answer(int method, int a, int b, int c, boolean ofModel) {
        try {
            return method < 10 ? doing(method, a, b, ofModel) : asking(method, a, b, c, ofModel);
        } catch (IllegalArgumentException | IllegalStateException | IndexOutOfBoundsException e) {
            // The machine's own subclasses are another answer than the document's exception.
            return e.getClass().getName();
        }
    }

    private String doing(int method, int a, int b, boolean ofModel) {
        name = new String[] {"begin", "set", "setting", "start", "stop", "run", "append", "clearBuffer", "firstError",
            "play"}[method];
        switch (method) {
            case 0: return "" + (ofModel ? model.begin(a) : x.begin(a));
            case 1: return "" + (ofModel ? model.set(a, b) : x.set(a, b));
            case 2: return "" + (ofModel ? model.setting(a) : x.setting(a));
            case 3: return "" + (ofModel ? model.start() : x.start());
            case 4: return "" + (ofModel ? model.stop() : x.stop());
            case 5: return "" + (ofModel ? model.run(a) : x.run(a));
            case 6: return "" + (ofModel ? model.append(a) : x.append(a));
            case 7: return "" + (ofModel ? model.clearBuffer() : x.clearBuffer());
            case 8: return "" + (ofModel ? model.firstError() : x.firstError());
            default: return "" + (ofModel ? model.play() : x.play());
        }
    }

    private String asking(int method, int a, int b, int c, boolean ofModel) {
        name = new String[] {"count", "phase", "record", "ifLoaded", "settles", "greatestLoad", "unbalance",
            "meanVoltage", "digest"}[method - 10];
        switch (method) {
            case 10: return "" + (ofModel ? model.count(a) : x.count(a));
            case 11: return "" + (ofModel ? model.phase(a, b) : x.phase(a, b));
            case 12: return "" + (ofModel ? model.record(a, b) : x.record(a, b));
            case 13: return "" + (ofModel ? model.ifLoaded(a, b, c) : x.ifLoaded(a, b, c));
            case 14: return "" + (ofModel ? model.settles(a) : x.settles(a));
            case 15: return "" + (ofModel ? model.greatestLoad(a) : x.greatestLoad(a));
            case 16: return "" + (ofModel ? model.unbalance() : x.unbalance());
            case 17: return "" + (ofModel ? model.meanVoltage() : x.meanVoltage());
            default: return "" + (ofModel ? model.digest() : x.digest());
        }
    }
}
