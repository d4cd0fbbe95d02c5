/** The settings with their ranges, and promises 3 and 4: set, setting. */
public final class SettingsTest {
    static final int SETTINGS = 15;
    static final int[] LEAST = {1000, 500, 0, 1, 1, 100, 0, 0, 1, 0, 1, 0, 500, 0, 0};
    static final int[] GREATEST =
        {24000, 12000, 60000, 100, 500, 30000, 500, 500, 2000, 10000, 30000, 30000, 30000, 24000, 1000};
    static final int[] AT_FIRST =
        {12000, 3300, 1000, 20, 50, 8000, 50, 20, 100, 300, 3000, 1000, 5000, 4000, 100};

    private static final String[] NAMES = {"input voltage", "target voltage", "load current", "inductance", "capacity",
        "current limit", "proportional gain", "integral gain", "ramp step", "skip level", "upper level", "lower level",
        "overvoltage", "least input", "balance gain"};
    private static final int[] NO_SETTINGS = {-1, 15, 16, Integer.MIN_VALUE, Integer.MAX_VALUE};

    public static void main(String[] args) {
        Check.run("SettingsTest", sentences());
    }

    static Sentences sentences() {
        Sentences all = new Sentences().in("Terms");
        for (int i = 0; i < SETTINGS; i++) {
            int setting = i;
            all.holds(i + " " + NAMES[i] + ", " + LEAST[i] + " to " + GREATEST[i] + ", " + AT_FIRST[i],
                () -> rangeOf(setting));
        }
        return all
            .in("Promise 3: set")
            .holds("Changes a setting.", SettingsTest::changesThisSettingAlone)
            .holds("setting: 0 to 14", SettingsTest::setTakesTheFirstAndTheLast)
            .holds("value: the new value", SettingsTest::theNewValueStands)
            .holds("Returns the previous value.", SettingsTest::setAnswersThePreviousValue)
            .holds("Throws IndexOutOfBoundsException if there is no such setting", SettingsTest::setOfNoSetting)
            .holds("Throws IllegalArgumentException if value is out of the range of the setting",
                SettingsTest::valueOutOfRange)
            .in("Promise 4: setting")
            .holds("Returns a setting.", SettingsTest::settingChangesNothing)
            .holds("setting: 0 to 14", SettingsTest::settingTakesTheFirstAndTheLast)
            .holds("Returns its value.", SettingsTest::settingAnswersItsValue)
            .holds("Throws IndexOutOfBoundsException if there is no such setting", SettingsTest::settingOfNoSetting);
    }

    private static void rangeOf(int setting) {
        PhaseConverter x = new PhaseConverter();
        Check.same("at first", x.setting(setting), AT_FIRST[setting]);
        x.set(setting, LEAST[setting]);
        Check.same("the least", x.setting(setting), LEAST[setting]);
        Check.refuses("one less", x, Check.ARGUMENT, () -> x.set(setting, LEAST[setting] - 1));
        Check.same("the least stays", x.setting(setting), LEAST[setting]);
        x.set(setting, GREATEST[setting]);
        Check.same("the greatest", x.setting(setting), GREATEST[setting]);
        Check.refuses("one more", x, Check.ARGUMENT, () -> x.set(setting, GREATEST[setting] + 1));
        Check.same("the greatest stays", x.setting(setting), GREATEST[setting]);
        x.begin(2);
        Check.same("after begin", x.setting(setting), AT_FIRST[setting]);
    }

    private static void changesThisSettingAlone() {
        for (int i = 0; i < SETTINGS; i++) {
            PhaseConverter x = new PhaseConverter();
            x.set(i, GREATEST[i]);
            for (int k = 0; k < SETTINGS; k++) {
                Check.same("setting(" + k + ") after set of " + i, x.setting(k), k == i ? GREATEST[i] : AT_FIRST[k]);
            }
            Check.counts("after set of " + i, x, 0, 0, 0, 2, 0, 0, 0, 0, 0, 0, 0, 0, 0, 2, 0);
        }
    }

    private static void setTakesTheFirstAndTheLast() {
        PhaseConverter x = new PhaseConverter();
        Check.same("set(0, 1001)", x.set(0, 1001), 12000);
        Check.same("set(14, 999)", x.set(14, 999), 100);
        Check.same("setting(0)", x.setting(0), 1001);
        Check.same("setting(14)", x.setting(14), 999);
        Check.refuses("set(-1, 1001)", x, Check.INDEX, () -> x.set(-1, 1001));
        Check.refuses("set(15, 999)", x, Check.INDEX, () -> x.set(15, 999));
    }

    private static void theNewValueStands() {
        PhaseConverter x = Converters.running(2, 1000, 3);
        for (int i = 0; i < SETTINGS; i++) {
            x.set(i, LEAST[i] + 1);
            Check.same("set while it runs: setting(" + i + ")", x.setting(i), LEAST[i] + 1);
        }
        x.run(1);
        x.stop();
        for (int i = 0; i < SETTINGS; i++) {
            Check.same("cycles and stop leave setting(" + i + ")", x.setting(i), LEAST[i] + 1);
        }
    }

    private static void setAnswersThePreviousValue() {
        PhaseConverter x = new PhaseConverter();
        for (int i = 0; i < SETTINGS; i++) {
            Check.same("set(" + i + ", least)", x.set(i, LEAST[i]), AT_FIRST[i]);
            Check.same("set(" + i + ", greatest)", x.set(i, GREATEST[i]), LEAST[i]);
            Check.same("set(" + i + ", the same)", x.set(i, GREATEST[i]), GREATEST[i]);
            Check.same("set(" + i + ", at first)", x.set(i, AT_FIRST[i]), GREATEST[i]);
        }
        StateTest.isFresh("after all settings were set back", x, 2, "");
    }

    private static void setOfNoSetting() {
        PhaseConverter x = new PhaseConverter();
        for (int setting : NO_SETTINGS) {
            Check.refuses("set(" + setting + ", 1000)", x, Check.INDEX, () -> x.set(setting, 1000));
            Check.refuses("set(" + setting + ", 0)", x, Check.INDEX, () -> x.set(setting, 0));
        }
    }

    private static void valueOutOfRange() {
        for (int i = 0; i < SETTINGS; i++) {
            int setting = i;
            PhaseConverter x = new PhaseConverter();
            int[] values = {LEAST[i] - 1, GREATEST[i] + 1, -1000000, 1000000, Integer.MIN_VALUE, Integer.MAX_VALUE};
            for (int value : values) {
                Check.refuses("set(" + i + ", " + value + ")", x, Check.ARGUMENT, () -> x.set(setting, value));
            }
        }
    }

    private static void settingChangesNothing() {
        PhaseConverter x = Converters.running(3, 2000, 20);
        for (int i = 0; i < SETTINGS; i++) {
            int setting = i;
            Check.asks("setting(" + i + ")", x, i == 2 ? 2000 : AT_FIRST[i], () -> x.setting(setting));
        }
    }

    private static void settingTakesTheFirstAndTheLast() {
        PhaseConverter x = new PhaseConverter();
        Check.same("setting(0)", x.setting(0), 12000);
        Check.same("setting(14)", x.setting(14), 100);
        Check.refuses("setting(-1)", x, Check.INDEX, () -> x.setting(-1));
        Check.refuses("setting(15)", x, Check.INDEX, () -> x.setting(15));
    }

    private static void settingAnswersItsValue() {
        PhaseConverter x = new PhaseConverter();
        for (int i = 0; i < SETTINGS; i++) {
            Check.same("setting(" + i + ") at first", x.setting(i), AT_FIRST[i]);
            x.set(i, GREATEST[i] - 1);
        }
        for (int i = 0; i < SETTINGS; i++) {
            Check.same("setting(" + i + ")", x.setting(i), GREATEST[i] - 1);
        }
    }

    private static void settingOfNoSetting() {
        PhaseConverter x = new PhaseConverter();
        for (int setting : NO_SETTINGS) {
            Check.refuses("setting(" + setting + ")", x, Check.INDEX, () -> x.setting(setting));
        }
    }
}
