/** Converters in states with which it is easy to reckon by hand. */
final class Converters {
    /** A program of 50 characters, as many as the buffer can have. */
    static final String FULL_PROGRAM = "i12000,t3300,l1000,c8000,r200,s,x,i12000,t3300,l10";

    private Converters() {
    }

    /** Sets settings: number, value, number, value and so on. */
    static PhaseConverter set(PhaseConverter x, int... pairs) {
        for (int i = 0; i + 1 < pairs.length; i += 2) {
            x.set(pairs[i], pairs[i + 1]);
        }
        return x;
    }

    /** Begun with so many phases, and these settings: number, value, number, value and so on. */
    static PhaseConverter begun(int phases, int... pairs) {
        PhaseConverter x = new PhaseConverter();
        x.begin(phases);
        return set(x, pairs);
    }

    /** Started, and after so many cycles. */
    static PhaseConverter running(int phases, int load, int cycles) {
        PhaseConverter x = begun(phases, 2, load);
        x.start();
        x.run(cycles);
        return x;
    }

    /**
     * The load is so great that the output stays at 0: a current that is made stays as it is. The
     * ramp takes steps of 2000.
     */
    static PhaseConverter shorted(int phases, int inductance) {
        return begun(phases, 2, 60000, 3, inductance, 8, 2000);
    }

    /**
     * Off, without a load or a current, with this output voltage (a multiple of 20), after two
     * cycles: input voltage 24000, inductance 1, capacity 1, current limit 30000, ramp step 2000,
     * overvoltage 30000.
     */
    static PhaseConverter held(int phases, int voltage) {
        PhaseConverter x = begun(phases, 0, 24000, 2, 0, 3, 1, 4, 1, 5, 30000, 8, 2000, 12, 30000);
        x.start();
        // 24000 in slot 0, and in slot 1 clamped to 40000, when it trips and the current falls to 0.
        x.run(1);
        x.stop();
        x.set(2, (40000 - voltage) / 20);
        x.run(1);
        x.set(2, 0);
        return x;
    }

    /**
     * One phase; its one slot on lifts the output to 12000 at once, where it stays without a
     * current, as there is no load.
     */
    static PhaseConverter highOutput(int overvoltage) {
        return begun(1, 2, 0, 3, 1, 4, 1, 12, overvoltage);
    }

    /**
     * The output stays at 12000 and the pulses are 18 slots long. In a slot a current rises by 12
     * or falls by 120, and all currents are too small to move the output.
     */
    static PhaseConverter steady(int phases) {
        PhaseConverter x = held(phases, 12000);
        set(x, 0, 13200, 1, 12000, 3, 100, 4, 500, 6, 0, 7, 0, 9, 0, 14, 0);
        return set(x, 10, 30000, 11, 0);
    }

    static PhaseConverter inMode(int mode) {
        PhaseConverter x = mode == 3 ? highOutput(11999) : new PhaseConverter();
        if (mode == 4) {
            x.set(0, 3999);
        }
        if (mode != 0) {
            x.start();
            x.run(mode == 2 ? 60 : 1);
        }
        return x;
    }

    static boolean runsIn(int mode) {
        return mode == 1 || mode == 2;
    }

    /** How many pulses of a phase began, skipped or not. */
    static int pulsesBegun(PhaseConverter x, int phase) {
        return x.phase(phase, 5) + x.phase(phase, 6);
    }

    static void runOften(PhaseConverter x, int calls, int cycles) {
        for (int i = 0; i < calls; i++) {
            x.run(cycles);
        }
    }

    static void type(PhaseConverter x, String text) {
        for (int i = 0; i < text.length(); i++) {
            x.append(text.charAt(i));
        }
    }

    static int play(PhaseConverter x, String text) {
        type(x, text);
        return x.play();
    }
}
