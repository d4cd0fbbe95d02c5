/** The terms "Input text.", and promises 8 to 11: append, clearBuffer, firstError, play. */
public final class ProgramTest {
    private static final int MOST_CHARACTERS = 50;
    private static final String FULL = Converters.FULL_PROGRAM;

    public static void main(String[] args) {
        Check.run("ProgramTest", sentences());
    }

    static Sentences sentences() {
        return new Sentences()
            .in("Terms")
            .holds("The buffer has at most 50 characters.", ProgramTest::atMost50)
            .holds("A program is one or more items separated by \",\".", ProgramTest::itemsAndCommas)
            .holds("An item is \"s\" (start), \"x\" (stop), or one of the letters \"i\" (input voltage), "
                + "\"t\" (target voltage), \"l\" (load current), \"c\" (current limit) or \"r\" (run),",
                ProgramTest::letters)
            .holds("followed by a number without leading zeros and with at most 5 digits (\"0\" is allowed).",
                ProgramTest::numbers)
            .holds("The buffer is read from left to right;", ProgramTest::leftToRight)
            .holds("a character is a syntax error if no program (of any length) begins with the characters before it "
                + "and this character.", ProgramTest::everyCharacter)
            .in("Promise 8: append")
            .holds("Appends a character to the buffer.", ProgramTest::appends)
            .holds("code: the character code, 33 to 126", ProgramTest::allCodes)
            .holds("Returns the new length of the buffer.", ProgramTest::appendAnswersTheLength)
            .holds("Throws IllegalArgumentException if code is not 33 to 126", ProgramTest::appendRefusesCodes)
            .holds("Throws IllegalStateException if the buffer has 50 characters", ProgramTest::appendRefusesWhenFull)
            .in("Promise 9: clearBuffer")
            .holds("Clears the buffer.", ProgramTest::clears)
            .holds("Returns the length that it had.", ProgramTest::clearAnswersTheLength)
            .in("Promise 10: firstError")
            .holds("Finds the first syntax error of the buffer.", ProgramTest::firstErrorChangesNothing)
            .holds("Returns the index of the first character that is a syntax error;", ProgramTest::firstErrors)
            .holds("the length of the buffer if there is none.", ProgramTest::noError)
            .in("Promise 11: play")
            .holds("Carries out the items in the buffer, one after another,", ProgramTest::carriesOut)
            .holds("until one of them is not possible (its method would throw an exception)",
                ProgramTest::untilNotPossible)
            .holds("or there are no more;", ProgramTest::untilNoMore)
            .holds("then clears the buffer.", ProgramTest::playClears)
            .holds("Returns how many items were carried out.", ProgramTest::playAnswersHowMany)
            .holds("Throws IllegalArgumentException if the buffer is not a complete program",
                ProgramTest::notComplete);
    }

    private static PhaseConverter with(String text) {
        PhaseConverter x = new PhaseConverter();
        Converters.type(x, text);
        return x;
    }

    private static void firstError(String text, int due) {
        Check.same("firstError of '" + text + "'", with(text).firstError(), due);
    }

    /** The text is a program, which play takes whole. */
    private static void isProgram(String text, int items) {
        firstError(text, text.length());
        Check.same("play of '" + text + "'", with(text).play(), items);
    }

    /** The text is no complete program, and its first error is at this index (its length: it has none). */
    private static void isNone(String text, int error) {
        firstError(text, error);
        PhaseConverter x = with(text);
        Check.refuses("play of '" + text + "'", x, Check.ARGUMENT, x::play);
    }

    private static void atMost50() {
        Check.same("the text's length", FULL.length(), MOST_CHARACTERS);
        PhaseConverter x = with(FULL);
        Check.refuses("the 51st character", x, Check.STATE, () -> x.append('0'));
        Check.same("length", x.clearBuffer(), MOST_CHARACTERS);
        Converters.type(x, FULL.substring(1));
        Check.same("the 50th character", x.append('0'), MOST_CHARACTERS);
        Check.refuses("the 51st character", x, Check.STATE, () -> x.append('0'));
        // All 50 are kept and played.
        Check.same("play of 50 characters",
            Converters.play(new PhaseConverter(), "r1,r1,r1,r1,r1,r1,r1,r1,r1,r1,r1,r1,r1,r1,r1,x,r20"), 17);
    }

    private static void itemsAndCommas() {
        isNone("", 0);
        isProgram("s", 1);
        isProgram("s,x", 2);
        isProgram("s,r1,x,x", 4);
        isNone(",", 0);
        isNone("s,", 2);
        isNone(",s", 0);
        isNone("s,,x", 2);
        isNone("sx", 1);
        isNone("r1x", 2);
        isNone("s;x", 1);
    }

    private static void letters() {
        isProgram("s", 1);
        isProgram("x", 1);
        for (String letter : new String[] {"i", "t", "l", "c", "r"}) {
            isProgram(letter + "100", "it".contains(letter) ? 0 : 1);
            isNone(letter, 1);
            isNone(letter + ",s", 1);
            isNone(letter + letter, 1);
        }
        isNone("s1", 1);
        isNone("x0", 1);
        for (String other : new String[] {"S", "X", "I", "T", "L", "C", "R", "a", "q", "z", "0", "9", "-", "~", "!"}) {
            isNone(other, 0);
            isNone("s," + other, 2);
        }
        // Each letter is for its own setting or call.
        PhaseConverter x = new PhaseConverter();
        Converters.play(x, "i9000,t1200,l80,c600");
        int[] due = SettingsTest.AT_FIRST.clone();
        due[0] = 9000;
        due[1] = 1200;
        due[2] = 80;
        due[5] = 600;
        for (int i = 0; i < SettingsTest.SETTINGS; i++) {
            Check.same("setting(" + i + ")", x.setting(i), due[i]);
        }
        Converters.play(x, "s");
        Check.counts("started", x, 1, 0, 0, 2, 0);
        Converters.play(x, "r7");
        Check.same("cycles", x.count(4), 7);
        Converters.play(x, "x");
        Check.same("stopped", x.count(0), 0);
    }

    private static void numbers() {
        isProgram("l0", 1);
        isNone("l00", 2);
        isNone("l01", 2);
        isNone("l09,s", 2);
        isProgram("l1", 1);
        isProgram("l10", 1);
        isProgram("l1000", 1);
        isProgram("l10000", 1);
        isProgram("l60000", 1);
        isProgram("l99999", 0);
        isNone("l100000", 6);
        isNone("l600000", 6);
        isNone("l123456", 6);
        isNone("l-1", 1);
        isNone("l+1", 1);
        isNone("l1.5", 2);
        isNone("r1,l01", 5);
        isNone("r1,l123456", 9);
        // The digits count, from the first to the fifth.
        PhaseConverter x = new PhaseConverter();
        Converters.play(x, "l59876");
        Check.same("load current", x.setting(2), 59876);
        Converters.play(x, "l10203,r1");
        Check.same("load current", x.setting(2), 10203);
        Converters.play(x, "l0");
        Check.same("load current", x.setting(2), 0);
    }

    private static void leftToRight() {
        firstError("q?", 0);
        firstError("s,r1,s1,??", 6);
        firstError("??,s,r1", 0);
        firstError("s,r01,r123456", 4);
        firstError("s,r123456,r01", 8);
        // The items are carried out in that order too.
        PhaseConverter x = with("l5,l6,l7");
        x.play();
        Check.same("the last one stands", x.setting(2), 7);
    }

    /** Each character behind each kind of beginning. */
    private static void everyCharacter() {
        String[] heads = {"", "s", "x", "r", "i", "r0", "t7", "l12", "c123", "r1234", "i12345", "s,", "r5,"};
        String letters = "sxitlcr";
        String digits = "0123456789";
        String[] follow = {letters, ",", ",", digits, digits, ",", "," + digits, "," + digits, "," + digits,
            "," + digits, ",", letters, letters};
        for (int h = 0; h < heads.length; h++) {
            for (int code = 33; code <= 126; code++) {
                PhaseConverter x = with(heads[h]);
                x.append(code);
                int due = heads[h].length() + (follow[h].indexOf(code) >= 0 ? 1 : 0);
                Check.same("firstError of '" + heads[h] + (char) code + "'", x.firstError(), due);
            }
        }
        // A program may be longer than the buffer: no end of it is an error.
        String head = FULL.substring(0, 47);
        firstError(head + "l10", MOST_CHARACTERS);
        firstError(head + "l0,", MOST_CHARACTERS);
        firstError(head + "s,l", MOST_CHARACTERS);
        firstError(head + "s,s", MOST_CHARACTERS);
        firstError(head + "l00", MOST_CHARACTERS - 1);
    }

    private static void appends() {
        PhaseConverter x = new PhaseConverter();
        String text = "";
        for (char code : "r5,~!".toCharArray()) {
            x.append(code);
            text += code;
            Check.same("digest with '" + text + "'", x.digest(), StateTest.freshDigest(2, text));
        }
        x.clearBuffer();
        x.append('s');
        Check.same("from the beginning again", x.digest(), StateTest.freshDigest(2, "s"));
        Check.same("nothing is carried out", x.count(0), 0);
    }

    private static void allCodes() {
        for (int code = 33; code <= 126; code++) {
            PhaseConverter x = new PhaseConverter();
            Check.same("append(" + code + ")", x.append(code), 1);
            Check.same("digest", x.digest(), StateTest.freshDigest(2, "" + (char) code));
        }
    }

    private static void appendAnswersTheLength() {
        PhaseConverter x = new PhaseConverter();
        for (int i = 1; i <= MOST_CHARACTERS; i++) {
            Check.same("append", x.append(i % 2 == 0 ? '~' : '!'), i);
        }
        x.clearBuffer();
        Check.same("append after clearBuffer", x.append('s'), 1);
        x.play();
        Check.same("append after play", x.append('s'), 1);
    }

    private static void appendRefusesCodes() {
        PhaseConverter x = with("s,");
        for (int code : new int[] {32, 127, 0, -1, 10, 160, 256 + 's', 65536 + 's', Integer.MIN_VALUE,
            Integer.MAX_VALUE}) {
            Check.refuses("append(" + code + ")", x, Check.ARGUMENT, () -> x.append(code));
        }
        Check.same("length", x.clearBuffer(), 2);
    }

    private static void appendRefusesWhenFull() {
        PhaseConverter x = with(FULL.substring(1));
        Check.same("append at 49", x.append('s'), MOST_CHARACTERS);
        Check.refuses("append at 50", x, Check.STATE, () -> x.append('s'));
        Check.refuses("append at 50", x, Check.STATE, () -> x.append('!'));
        Check.refuses("append at 50", x, Check.STATE, () -> x.append('~'));
        Check.same("length", x.clearBuffer(), MOST_CHARACTERS);
        Check.same("append after clearBuffer", x.append('s'), 1);
    }

    private static void clears() {
        PhaseConverter x = Converters.running(2, 1000, 5);
        long before = x.digest();
        Converters.type(x, "r5,x");
        x.clearBuffer();
        Check.same("only the buffer is cleared", x.digest(), before);
        Check.same("firstError", x.firstError(), 0);
        Check.refuses("play", x, Check.ARGUMENT, x::play);
        Converters.type(x, FULL);
        x.clearBuffer();
        Check.same("a full one", x.digest(), before);
    }

    private static void clearAnswersTheLength() {
        PhaseConverter x = new PhaseConverter();
        Check.same("an empty one", x.clearBuffer(), 0);
        for (int length : new int[] {1, 4, 49, 50}) {
            Converters.type(x, FULL.substring(0, length));
            Check.same("clearBuffer", x.clearBuffer(), length);
            Check.same("clearBuffer again", x.clearBuffer(), 0);
        }
    }

    private static void firstErrorChangesNothing() {
        for (String text : new String[] {"", "s", "s,q,s", "r5,l", FULL}) {
            PhaseConverter x = with(text);
            Check.asks("firstError of '" + text + "'", x, text.equals("s,q,s") ? 2 : text.length(), x::firstError);
            Check.same("the buffer stays", x.clearBuffer(), text.length());
        }
    }

    private static void firstErrors() {
        firstError(",", 0);
        firstError("q", 0);
        firstError("ss", 1);
        firstError("r,", 1);
        firstError("r12s", 3);
        firstError("i1,t2,l3,c4,r5,s,x,y?", 19);
        firstError("x,x,x,x,x,x,x,x,x,x,x,x,x,x,x,x,x,x,x,x,x,x,x,x,x,", MOST_CHARACTERS);
        firstError("x,x,x,x,x,x,x,x,x,x,x,x,x,x,x,x,x,x,x,x,x,x,x,x,x?", MOST_CHARACTERS - 1);
    }

    private static void noError() {
        firstError("", 0);
        firstError("s", 1);
        firstError("s,", 2);
        firstError("r", 1);
        firstError("s,r", 3);
        firstError("r99999", 6);
        firstError("i1,t2,l3,c4,r5,s,x", 18);
        firstError(FULL, MOST_CHARACTERS);
    }

    private static void carriesOut() {
        PhaseConverter x = with("i9000,t1200,l80,c600,s,r20,x,r3");
        x.play();
        PhaseConverter y = new PhaseConverter();
        Converters.set(y, 0, 9000, 1, 1200, 2, 80, 5, 600);
        y.start();
        y.run(20);
        y.stop();
        y.run(3);
        Check.same("a program does what its calls do", x.digest(), y.digest());
        Check.same("cycles", x.count(4), 23);
        PhaseConverter z = new PhaseConverter();
        Converters.play(z, "r1,l7,r200,x,s");
        Check.counts("one after another", z, 1, 0, 0, 2, 201);
    }

    private static void untilNotPossible() {
        String[] notPossible = {"r0", "r201", "r99999", "i999", "i24001", "t499", "t12001", "l60001", "c99", "c30001",
            "i0", "t0", "c0", "s"};
        for (String item : notPossible) {
            PhaseConverter x = new PhaseConverter();
            Check.same("play up to " + item, Converters.play(x, "s,r2," + item + ",l7,x,r9"), 2);
            PhaseConverter y = new PhaseConverter();
            y.start();
            y.run(2);
            Check.same(item + " changes nothing, and nothing behind it is carried out", x.digest(), y.digest());
        }
        String[] possible = {"r1", "r200", "i1000", "i24000", "t500", "t12000", "l0", "l60000", "c100", "c30000", "x"};
        for (String item : possible) {
            Check.same("play beyond " + item, Converters.play(new PhaseConverter(), item + ",x"), 2);
        }
        Check.same("starved and tripped ones can be started", Converters.play(new PhaseConverter(), "i3999,s,r1,s"), 4);
        atTheCycleLimit();
    }

    private static void atTheCycleLimit() {
        PhaseConverter x = new PhaseConverter();
        Converters.runOften(x, 499, 200);
        Check.same("up to 99801 cycles", Converters.play(x, "r1"), 1);
        Check.same("not up to 100001", Converters.play(x, "r200"), 0);
        Check.same("cycles", x.count(4), 99801);
    }

    private static void untilNoMore() {
        PhaseConverter x = new PhaseConverter();
        Converters.play(x, "l5,r2");
        Check.same("the last item too", x.count(4), 2);
        Converters.play(x, "r1");
        Check.same("the only item", x.count(4), 3);
        Converters.play(x, "x,x,x,x,x,x,x,x,x,x,x,x,x,x,x,x,x,x,x,x,x,x,x,r20");
        Check.same("the last of 50 characters", x.count(4), 23);
    }

    private static void playClears() {
        for (String text : new String[] {"s", "l5,r2,t0,l7", "r0", FULL}) {
            PhaseConverter x = with(text);
            x.play();
            Check.same("the buffer after '" + text + "'", x.clearBuffer(), 0);
        }
        PhaseConverter y = with("l5");
        y.play();
        Check.refuses("play once more", y, Check.ARGUMENT, y::play);
    }

    private static void playAnswersHowMany() {
        Check.same("one", with("x").play(), 1);
        Check.same("none", with("r0,x").play(), 0);
        Check.same("the first", with("s,s,r5").play(), 1);
        Check.same("five", with("s,x,s,x,x").play(), 5);
        Check.same("25", with("x,x,x,x,x,x,x,x,x,x,x,x,x,x,x,x,x,x,x,x,x,x,x,x,x").play(), 25);
        Check.same("two of three", with("r200,r1,r201").play(), 2);
    }

    private static void notComplete() {
        String[] texts = {"", ",", "s,", "r", "s,r", "r1,", "q", "r01", "r00", "r123456", "s1", "s,,s", "x;x", "r5,l",
            "s,x,q", "l5,r2,?", "r0,", "s,r5,"};
        for (String text : texts) {
            PhaseConverter x = with(text);
            Check.refuses("play of '" + text + "'", x, Check.ARGUMENT, x::play);
            Check.same("nothing was carried out", x.count(4) + x.count(0), 0);
            Check.same("the buffer stays", x.clearBuffer(), text.length());
        }
    }
}
