/**
 * A simulator of a switched converter with up to four phases. The promises of its
 * document are kept here; README.md says how to use it.
 */
public final class PhaseConverter {
    /** There is nothing to return. */
    public static final int NONE = -1;

    private static final int INPUT_VOLTAGE = 0;
    private static final int TARGET_VOLTAGE = 1;
    private static final int LOAD_CURRENT = 2;
    private static final int INDUCTANCE = 3;
    private static final int CAPACITY = 4;
    private static final int CURRENT_LIMIT = 5;
    private static final int PROPORTIONAL_GAIN = 6;
    private static final int INTEGRAL_GAIN = 7;
    private static final int RAMP_STEP = 8;
    private static final int SKIP_LEVEL = 9;
    private static final int UPPER_LEVEL = 10;
    private static final int LOWER_LEVEL = 11;
    private static final int OVERVOLTAGE = 12;
    private static final int LEAST_INPUT = 13;
    private static final int BALANCE_GAIN = 14;
    private static final int SETTINGS = 15;

    private static final int[] LEAST =
        {1000, 500, 0, 1, 1, 100, 0, 0, 1, 0, 1, 0, 500, 0, 0};
    private static final int[] GREATEST =
        {24000, 12000, 60000, 100, 500, 30000, 500, 500, 2000, 10000, 30000, 30000, 30000, 24000, 1000};
    private static final int[] AT_FIRST =
        {12000, 3300, 1000, 20, 50, 8000, 50, 20, 100, 300, 3000, 1000, 5000, 4000, 100};

    private static final int OFF = 0;
    private static final int RAMPING = 1;
    private static final int REGULATING = 2;
    private static final int TRIPPED = 3;
    private static final int STARVED = 4;

    private static final int MOST_PHASES = 4;
    private static final int PHASES_AT_FIRST = 2;
    private static final int SLOTS = 20;
    private static final int MOST_DUTY = 900;
    private static final int MOST_INTEGRAL = 100000;
    private static final int MOST_VOLTAGE = 40000;
    private static final int ADDING_CYCLES = 3;
    private static final int SHEDDING_CYCLES = 5;
    private static final int REST_UNIT = 1000;

    private static final int COUNTS = 15;
    private static final int PROPERTIES = 7;
    private static final int PARTS = 6;
    private static final int OUTLOOKS = 6;
    private static final int KEPT_RECORDS = 16;

    private static final int MOST_CYCLES_A_RUN = 200;
    private static final int MOST_CYCLES = 100000;
    private static final int MOST_CYCLES_AHEAD = 100;
    private static final int MOST_BAND = 5000;
    private static final int MOST_SETTLING_CYCLES = 200;
    private static final int SETTLED_CYCLES = 3;
    private static final int MOST_TRIED_LOAD = 20000;
    private static final int TRIED_LOAD_STEP = 500;
    private static final int TRIED_CYCLES = 30;
    private static final int DIGEST_BAND = 50;

    private static final int MOST_CHARACTERS = 50;
    private static final int MOST_DIGITS = 5;
    private static final int LEAST_CODE = 33;
    private static final int GREATEST_CODE = 126;

    private final Plant plant;
    // The questions that look ahead pass their cycles here, so that the plant stays as it is.
    private final Plant trial;
    private final History history;
    private final Program program;

    public PhaseConverter() {
        plant = new Plant(PHASES_AT_FIRST);
        trial = new Plant(PHASES_AT_FIRST);
        history = new History();
        program = new Program();
    }

    // ---- settings and modes

    public int begin(int phases) throws IllegalArgumentException {
        if (phases < 1 || phases > MOST_PHASES) {
            throw new IllegalArgumentException("phases is not 1 to 4");
        }
        int previous = plant.phaseCount;
        plant.reset(phases);
        history.forget();
        return previous;
    }

    public int set(int setting, int value) throws IndexOutOfBoundsException, IllegalArgumentException {
        if (!isSetting(setting)) {
            throw new IndexOutOfBoundsException("there is no such setting");
        }
        if (!fits(setting, value)) {
            throw new IllegalArgumentException("value is out of the range of the setting");
        }
        int previous = plant.settings[setting];
        plant.settings[setting] = value;
        return previous;
    }

    public int setting(int setting) throws IndexOutOfBoundsException {
        if (!isSetting(setting)) {
            throw new IndexOutOfBoundsException("there is no such setting");
        }
        return plant.settings[setting];
    }

    public int start() throws IllegalStateException {
        if (plant.runs()) {
            throw new IllegalStateException("the converter runs");
        }
        plant.softStart();
        return plant.voltage;
    }

    public int stop() {
        int previous = plant.mode;
        plant.halt(OFF);
        return previous;
    }

    public int run(int cycles) throws IllegalArgumentException, IllegalStateException {
        if (!isRunLength(cycles)) {
            throw new IllegalArgumentException("cycles is not 1 to 200");
        }
        if (!hasRoomFor(cycles)) {
            throw new IllegalStateException("there would be more than 100000 cycles");
        }
        passCycles(cycles);
        return plant.voltage;
    }

    // ---- programs

    public int append(int code) throws IllegalArgumentException, IllegalStateException {
        if (code < LEAST_CODE || code > GREATEST_CODE) {
            throw new IllegalArgumentException("code is not 33 to 126");
        }
        if (!program.take(code)) {
            throw new IllegalStateException("the buffer has 50 characters");
        }
        return program.length;
    }

    public int clearBuffer() {
        int previous = program.length;
        program.length = 0;
        return previous;
    }

    public int firstError() {
        return program.errorIndex();
    }

    public int play() throws IllegalArgumentException {
        if (!program.isComplete()) {
            throw new IllegalArgumentException("the buffer is not a complete program");
        }
        int carriedOut = 0;
        int letter = 0;
        int number = 0;
        boolean possible = true;
        // The end of the buffer ends an item as a comma does.
        for (int i = 0; i <= program.length && possible; i++) {
            int code = i < program.length ? program.codeAt(i) : ',';
            if (code == ',') {
                possible = isPossible(letter, number);
                if (possible) {
                    carryOut(letter, number);
                    carriedOut++;
                }
                number = 0;
            } else if (isDigit(code)) {
                number = 10 * number + code - '0';
            } else {
                letter = code;
            }
        }
        program.length = 0;
        return carriedOut;
    }

    // ---- questions

    public int count(int what) throws IllegalArgumentException {
        if (what < 0 || what >= COUNTS) {
            throw new IllegalArgumentException("what is not 0 to 14");
        }
        return number(what);
    }

    public int phase(int phase, int what) throws IndexOutOfBoundsException, IllegalArgumentException {
        if (phase < 0 || phase >= plant.phaseCount || phase >= plant.phases.length) {
            throw new IndexOutOfBoundsException("the phase does not exist");
        }
        if (what < 0 || what >= PROPERTIES) {
            throw new IllegalArgumentException("what is not 0 to 6");
        }
        return plant.phases[phase].property(what);
    }

    public int record(int index, int what) throws IndexOutOfBoundsException, IllegalArgumentException {
        if (index < 0 || index >= history.size) {
            throw new IndexOutOfBoundsException("there is no such record");
        }
        if (what < 0 || what >= PARTS) {
            throw new IllegalArgumentException("what is not 0 to 5");
        }
        return history.part(index, what);
    }

    public int ifLoaded(int load, int cycles, int what) throws IllegalArgumentException {
        if (!fits(LOAD_CURRENT, load) || cycles < 1 || cycles > MOST_CYCLES_AHEAD
                || what < 0 || what >= OUTLOOKS) {
            throw new IllegalArgumentException("an argument is out of range");
        }
        beginTrial();
        trial.settings[LOAD_CURRENT] = load;
        trial.peakCurrent = 0;
        int least = MOST_VOLTAGE;
        int greatest = 0;
        for (int i = 0; i < cycles; i++) {
            trial.passCycle();
            least = Math.min(least, trial.leastVoltage);
            greatest = Math.max(greatest, trial.greatestVoltage);
        }
        switch (what) {
            case 0: return trial.voltage;
            case 1: return least;
            case 2: return greatest;
            case 3: return trial.mode;
            case 4: return trial.active;
            default: return trial.peakCurrent;
        }
    }

    public int settles(int band) throws IllegalArgumentException {
        if (band < 0 || band > MOST_BAND) {
            throw new IllegalArgumentException("band is not 0 to 5000");
        }
        beginTrial();
        int target = trial.settings[TARGET_VOLTAGE];
        int inBand = 0;
        for (int n = 1; n <= MOST_SETTLING_CYCLES + SETTLED_CYCLES - 1; n++) {
            trial.passCycle();
            inBand = Math.abs(trial.voltage - target) <= band ? inBand + 1 : 0;
            if (inBand == SETTLED_CYCLES) {
                return n - SETTLED_CYCLES + 1;
            }
        }
        return NONE;
    }

    public int greatestLoad(int level) throws IllegalArgumentException {
        if (level < 0 || level > MOST_VOLTAGE) {
            throw new IllegalArgumentException("level is not 0 to 40000");
        }
        // A greater load may hold the level where a smaller one fails (a small one can trip the
        // overvoltage), so no load is passed over.
        for (int load = MOST_TRIED_LOAD; load >= 0; load -= TRIED_LOAD_STEP) {
            if (holdsLevel(load, level)) {
                return load;
            }
        }
        return NONE;
    }

    public int unbalance() {
        return plant.currentSpread();
    }

    public double meanVoltage() {
        int records = history.size;
        if (records < 1) {
            return 0.0;
        }
        int sum = 0;
        for (int i = 0; i < records; i++) {
            sum += history.part(i, 0);
        }
        return (double) sum / records;
    }

    public long digest() {
        long hash = 2017;
        for (int what = 0; what < COUNTS; what++) {
            hash = 31 * hash + number(what);
        }
        for (int i = 0; i < SETTINGS && i < plant.settings.length; i++) {
            hash = 31 * hash + plant.settings[i];
        }
        for (int p = 0; p < plant.phaseCount && p < plant.phases.length; p++) {
            for (int what = 0; what < PROPERTIES; what++) {
                hash = 31 * hash + plant.phases[p].property(what);
            }
        }
        for (int i = 0; i < history.size; i++) {
            for (int what = 0; what < PARTS; what++) {
                hash = 31 * hash + history.part(i, what);
            }
        }
        hash = 31 * hash + settles(DIGEST_BAND);
        hash = 31 * hash + plant.currentSpread();
        hash = 31 * hash + program.length;
        for (int i = 0; i < program.length; i++) {
            hash = 31 * hash + program.codeAt(i);
        }
        return hash;
    }

    // ---- helpers of the calls

    private static boolean isSetting(int setting) {
        return setting >= 0 && setting < SETTINGS;
    }

    private static boolean fits(int setting, int value) {
        return isSetting(setting) && value >= LEAST[setting] && value <= GREATEST[setting];
    }

    private static boolean isRunLength(int cycles) {
        return cycles >= 1 && cycles <= MOST_CYCLES_A_RUN;
    }

    private boolean hasRoomFor(int cycles) {
        return plant.cycles + cycles <= MOST_CYCLES;
    }

    private static boolean isDigit(int code) {
        return code >= '0' && code <= '9';
    }

    private static int clamp(int value, int least, int greatest) {
        return value < least ? least : value > greatest ? greatest : value;
    }

    // The divisors are settings and numbers of phases, which are never 0; the test keeps
    // the division safe without that knowledge.
    private static int quotient(int dividend, int divisor) {
        return divisor == 0 ? 0 : dividend / divisor;
    }

    private void passCycles(int cycles) {
        for (int i = 0; i < cycles; i++) {
            int limitEventsBefore = plant.limitEvents();
            plant.passCycle();
            history.keep(plant, plant.limitEvents() - limitEventsBefore);
        }
    }

    private boolean isPossible(int letter, int number) {
        switch (letter) {
            case 's': return !plant.runs();
            case 'x': return true;
            case 'r': return isRunLength(number) && hasRoomFor(number);
            default: return fits(settingOf(letter), number);
        }
    }

    /** Carries out an item of a program that is possible. */
    private void carryOut(int letter, int number) {
        switch (letter) {
            case 's':
                plant.softStart();
                break;
            case 'x':
                plant.halt(OFF);
                break;
            case 'r':
                passCycles(number);
                break;
            default:
                int setting = settingOf(letter);
                if (isSetting(setting)) {
                    plant.settings[setting] = number;
                }
        }
    }

    private static int settingOf(int letter) {
        switch (letter) {
            case 'i': return INPUT_VOLTAGE;
            case 't': return TARGET_VOLTAGE;
            case 'l': return LOAD_CURRENT;
            case 'c': return CURRENT_LIMIT;
            default: return NONE;
        }
    }

    private int number(int what) {
        return what == 14 ? history.size : plant.number(what);
    }

    private void beginTrial() {
        trial.copyFrom(plant);
    }

    private boolean holdsLevel(int load, int level) {
        beginTrial();
        trial.settings[LOAD_CURRENT] = load;
        for (int i = 0; i < TRIED_CYCLES; i++) {
            trial.passCycle();
            if (trial.leastVoltage < level) {
                return false;
            }
        }
        return true;
    }

    /** One phase: its current and pulse, and what has happened to it. */
    private static final class Phase {
        int current;
        int onTime;
        int rest;
        int onSlots;
        int limitEvents;
        int skipped;
        int pulses;

        void reset() {
            current = 0;
            onTime = 0;
            rest = 0;
            onSlots = 0;
            limitEvents = 0;
            skipped = 0;
            pulses = 0;
        }

        void copyFrom(Phase other) {
            current = other.current;
            onTime = other.onTime;
            rest = other.rest;
            onSlots = other.onSlots;
            limitEvents = other.limitEvents;
            skipped = other.skipped;
            pulses = other.pulses;
        }

        void skipPulse() {
            onTime = 0;
            skipped++;
        }

        void beginPulse(int duty) {
            rest += SLOTS * duty;
            onTime = rest / REST_UNIT;
            rest = rest % REST_UNIT;
            pulses++;
        }

        void passSlot(int limit, int rise, int fall) {
            if (onTime > 0 && current >= limit) {
                onTime = 0;
                limitEvents++;
            }
            if (onTime > 0) {
                onTime--;
                onSlots++;
                current += rise;
            } else {
                current -= fall;
            }
            // The rise is negative where the output is above the input.
            if (current < 0) {
                current = 0;
            }
        }

        int property(int what) {
            switch (what) {
                case 0: return current;
                case 1: return onTime;
                case 2: return rest;
                case 3: return onSlots;
                case 4: return limitEvents;
                case 5: return skipped;
                default: return pulses;
            }
        }
    }

    /** The converter with its settings and phases: what a cycle changes, but for the records. */
    private static final class Plant {
        final int[] settings;
        final Phase[] phases;
        int phaseCount;
        int active;
        int mode;
        int voltage;
        int presentTarget;
        int integral;
        int duty;
        int addingCount;
        int sheddingCount;
        int cycles;
        int meanCurrent;
        // The bounds of the output voltage at the ends of the slots of the latest cycle.
        int leastVoltage;
        int greatestVoltage;
        int peakCurrent;
        int changes;

        Plant(int count) {
            settings = AT_FIRST.clone();
            phases = new Phase[MOST_PHASES];
            for (int p = 0; p < phases.length; p++) {
                phases[p] = new Phase();
            }
            phaseCount = count;
            active = count;
        }

        void reset(int count) {
            System.arraycopy(AT_FIRST, 0, settings, 0, SETTINGS);
            for (int p = 0; p < phases.length; p++) {
                phases[p].reset();
            }
            phaseCount = count;
            active = count;
            mode = OFF;
            voltage = 0;
            presentTarget = 0;
            integral = 0;
            duty = 0;
            addingCount = 0;
            sheddingCount = 0;
            cycles = 0;
            meanCurrent = 0;
            leastVoltage = 0;
            greatestVoltage = 0;
            peakCurrent = 0;
            changes = 0;
        }

        void copyFrom(Plant other) {
            System.arraycopy(other.settings, 0, settings, 0, SETTINGS);
            for (int p = 0; p < phases.length && p < other.phases.length; p++) {
                phases[p].copyFrom(other.phases[p]);
            }
            phaseCount = other.phaseCount;
            active = other.active;
            mode = other.mode;
            voltage = other.voltage;
            presentTarget = other.presentTarget;
            integral = other.integral;
            duty = other.duty;
            addingCount = other.addingCount;
            sheddingCount = other.sheddingCount;
            cycles = other.cycles;
            meanCurrent = other.meanCurrent;
            leastVoltage = other.leastVoltage;
            greatestVoltage = other.greatestVoltage;
            peakCurrent = other.peakCurrent;
            changes = other.changes;
        }

        boolean runs() {
            return mode == RAMPING || mode == REGULATING;
        }

        void softStart() {
            mode = RAMPING;
            presentTarget = voltage;
            integral = 0;
            addingCount = 0;
            sheddingCount = 0;
            active = phaseCount;
            for (int p = 0; p < phases.length; p++) {
                phases[p].rest = 0;
            }
        }

        void halt(int newMode) {
            mode = newMode;
            for (int p = 0; p < phases.length; p++) {
                phases[p].onTime = 0;
            }
        }

        void passCycle() {
            if (runs() && settings[INPUT_VOLTAGE] < settings[LEAST_INPUT]) {
                halt(STARVED);
            }
            if (runs()) {
                moveTarget();
                regulate();
                adaptPhases();
            }
            int sum = 0;
            for (int slot = 0; slot < SLOTS; slot++) {
                if (runs()) {
                    beginPulses(slot);
                }
                int currents = moveCurrents();
                sum += currents;
                moveVoltage(currents);
                leastVoltage = slot == 0 ? voltage : Math.min(leastVoltage, voltage);
                greatestVoltage = slot == 0 ? voltage : Math.max(greatestVoltage, voltage);
            }
            meanCurrent = sum / SLOTS;
            cycles++;
        }

        void moveTarget() {
            int target = settings[TARGET_VOLTAGE];
            if (mode == RAMPING) {
                presentTarget += settings[RAMP_STEP];
                if (presentTarget < target) {
                    return;
                }
                mode = REGULATING;
            }
            presentTarget = target;
        }

        void regulate() {
            int error = presentTarget - voltage;
            integral = clamp(integral + error, -MOST_INTEGRAL, MOST_INTEGRAL);
            int feedforward = quotient(1000 * presentTarget, settings[INPUT_VOLTAGE]);
            int proportional = error * settings[PROPORTIONAL_GAIN] / 100;
            int integrated = integral * settings[INTEGRAL_GAIN] / 10000;
            duty = clamp(feedforward + proportional + integrated, 0, MOST_DUTY);
        }

        void adaptPhases() {
            boolean heavy = active < phaseCount && meanCurrent > settings[UPPER_LEVEL] * active;
            addingCount = heavy ? addingCount + 1 : 0;
            if (addingCount == ADDING_CYCLES) {
                changeActive(active + 1);
                return;
            }
            boolean light = active > 1 && meanCurrent < settings[LOWER_LEVEL] * (active - 1);
            sheddingCount = light ? sheddingCount + 1 : 0;
            if (sheddingCount == SHEDDING_CYCLES) {
                changeActive(active - 1);
                if (active >= 0 && active < phases.length) {
                    phases[active].onTime = 0;
                }
            }
        }

        void changeActive(int count) {
            active = count;
            addingCount = 0;
            sheddingCount = 0;
            changes++;
        }

        void beginPulses(int slot) {
            for (int p = 0; p < active && p < phases.length; p++) {
                if (slot == quotient(SLOTS * p, active)) {
                    beginPulse(phases[p]);
                }
            }
        }

        void beginPulse(Phase phase) {
            boolean idle = mode == RAMPING || meanCurrent < settings[SKIP_LEVEL];
            if (voltage >= presentTarget && idle) {
                phase.skipPulse();
                return;
            }
            int excess = phase.current - quotient(activeCurrents(), active);
            int balanced = duty - excess * settings[BALANCE_GAIN] / 1000;
            phase.beginPulse(clamp(balanced, 0, MOST_DUTY));
        }

        int activeCurrents() {
            int sum = 0;
            for (int p = 0; p < active && p < phases.length; p++) {
                sum += phases[p].current;
            }
            return sum;
        }

        /** Lets the currents of a slot pass; answers their sum at its end. */
        int moveCurrents() {
            int limit = settings[CURRENT_LIMIT];
            int rise = quotient(settings[INPUT_VOLTAGE] - voltage, settings[INDUCTANCE]);
            int fall = quotient(voltage, settings[INDUCTANCE]);
            int sum = 0;
            for (int p = 0; p < phaseCount && p < phases.length; p++) {
                Phase phase = phases[p];
                phase.passSlot(limit, rise, fall);
                sum += phase.current;
                peakCurrent = Math.max(peakCurrent, phase.current);
            }
            return sum;
        }

        void moveVoltage(int currents) {
            int change = quotient(currents - settings[LOAD_CURRENT], settings[CAPACITY]);
            voltage = clamp(voltage + change, 0, MOST_VOLTAGE);
            if (runs() && voltage > settings[OVERVOLTAGE]) {
                halt(TRIPPED);
            }
        }

        int limitEvents() {
            int sum = 0;
            for (int p = 0; p < phaseCount && p < phases.length; p++) {
                sum += phases[p].limitEvents;
            }
            return sum;
        }

        int skippedPulses() {
            int sum = 0;
            for (int p = 0; p < phaseCount && p < phases.length; p++) {
                sum += phases[p].skipped;
            }
            return sum;
        }

        int ripple() {
            return greatestVoltage - leastVoltage;
        }

        int currentSpread() {
            int least = phases[0].current;
            int greatest = least;
            for (int p = 1; p < active && p < phases.length; p++) {
                least = Math.min(least, phases[p].current);
                greatest = Math.max(greatest, phases[p].current);
            }
            return greatest - least;
        }

        int number(int what) {
            switch (what) {
                case 0: return mode;
                case 1: return voltage;
                case 2: return presentTarget;
                case 3: return active;
                case 4: return cycles;
                case 5: return meanCurrent;
                case 6: return integral;
                case 7: return duty;
                case 8: return ripple();
                case 9: return limitEvents();
                case 10: return skippedPulses();
                case 11: return peakCurrent;
                case 12: return changes;
                default: return phaseCount;
            }
        }
    }

    /** The records of the latest cycles, in a ring. */
    private static final class History {
        final int[] parts = new int[KEPT_RECORDS * PARTS];
        int size;
        int newest;

        void forget() {
            size = 0;
            newest = 0;
        }

        void keep(Plant plant, int limitEvents) {
            newest = (newest + 1) % KEPT_RECORDS;
            size = Math.min(size + 1, KEPT_RECORDS);
            int at = newest * PARTS;
            if (at < 0 || at + PARTS > parts.length) {
                return;
            }
            parts[at] = plant.voltage;
            parts[at + 1] = plant.meanCurrent;
            parts[at + 2] = plant.ripple();
            parts[at + 3] = plant.active;
            parts[at + 4] = plant.mode;
            parts[at + 5] = limitEvents;
        }

        int part(int index, int what) {
            int ringIndex = (newest - index + KEPT_RECORDS) % KEPT_RECORDS;
            int at = ringIndex * PARTS + what;
            return at >= 0 && at < parts.length ? parts[at] : 0;
        }
    }

    /** The buffer and its syntax. */
    private static final class Program {
        // What may follow: an item, a number, or nothing but a comma; a state above ENDED
        // lets as many digits follow as it is above it.
        private static final int WRONG = -1;
        private static final int ITEM = 0;
        private static final int NUMBER = 1;
        private static final int ENDED = 2;

        final int[] codes = new int[MOST_CHARACTERS];
        int length;

        boolean take(int code) {
            if (length < 0 || length >= codes.length) {
                return false;
            }
            codes[length] = code;
            length++;
            return true;
        }

        int codeAt(int index) {
            return index >= 0 && index < codes.length ? codes[index] : 0;
        }

        int errorIndex() {
            int state = ITEM;
            for (int i = 0; i < length; i++) {
                state = stateAfter(state, codeAt(i));
                if (state == WRONG) {
                    return i;
                }
            }
            return length;
        }

        boolean isComplete() {
            int state = ITEM;
            for (int i = 0; i < length && state != WRONG; i++) {
                state = stateAfter(state, codeAt(i));
            }
            return state >= ENDED;
        }

        static int stateAfter(int state, int code) {
            if (state == ITEM) {
                return stateAfterLetter(code);
            }
            if (state == NUMBER) {
                if (code == '0') {
                    return ENDED;
                }
                return isDigit(code) ? ENDED + MOST_DIGITS - 1 : WRONG;
            }
            if (code == ',') {
                return ITEM;
            }
            return state > ENDED && isDigit(code) ? state - 1 : WRONG;
        }

        static int stateAfterLetter(int code) {
            switch (code) {
                case 's':
                case 'x':
                    return ENDED;
                case 'i':
                case 't':
                case 'l':
                case 'c':
                case 'r':
                    return NUMBER;
                default:
                    return WRONG;
            }
        }
    }
}
