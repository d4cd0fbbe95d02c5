/** What the tests share: running the tests of sentences, comparing answers, and exceptions. */
final class Check {
    interface Call {
        long answer();
    }

    static final Class<IllegalArgumentException> ARGUMENT = IllegalArgumentException.class;
    static final Class<IllegalStateException> STATE = IllegalStateException.class;
    static final Class<IndexOutOfBoundsException> INDEX = IndexOutOfBoundsException.class;

    private static final int MOST_LINES = 40;

    private static int wrong = 0;
    private static int done = 0;
    private static int printed = 0;

    private Check() {
    }

    /** Runs each sentence's test, and names the sentences that do not hold. */
    static void run(String name, Sentences sentences) {
        for (Sentences.Sentence sentence : sentences.all()) {
            int wrongBefore = wrong;
            int doneBefore = done;
            // A broken sentence must be named even if those before it have filled the page.
            printed = 0;
            try {
                sentence.test().run();
            } catch (RuntimeException e) {
                fail("it threw " + e);
            }
            if (done == doneBefore) {
                fail("nothing was checked");
            }
            if (wrong != wrongBefore) {
                System.out.println("BROKEN: " + sentence.section() + ": " + sentence.text());
            }
        }
        System.out.println(name + ": " + sentences.all().size() + " sentences");
        end(name);
    }

    static void same(String what, long got, long due) {
        done++;
        if (got != due) {
            fail(what + " answered " + got + ", due is " + due);
        }
    }

    static void sameDouble(String what, double got, double due) {
        done++;
        if (Double.compare(got, due) != 0) {
            fail(what + " answered " + got + ", due is " + due);
        }
    }

    static void yes(String what, boolean holds) {
        done++;
        if (!holds) {
            fail("it does not hold: " + what);
        }
    }

    /** The call must throw exactly this class, and leave the object as it was. */
    static void refuses(String what, PhaseConverter x, Class<? extends RuntimeException> due, Call call) {
        long before = x.digest();
        throwing(what, due, call);
        same("digest after the refused " + what, x.digest(), before);
    }

    /** The call must throw exactly this class: the machine's own subclasses are another answer. */
    static void throwing(String what, Class<? extends RuntimeException> due, Call call) {
        done++;
        try {
            long got = call.answer();
            fail(what + " answered " + got + ", due is " + due.getSimpleName());
        } catch (RuntimeException e) {
            if (e.getClass() != due) {
                fail(what + " throws " + e.getClass().getSimpleName() + ", due is " + due.getSimpleName());
            }
        }
    }

    /** The call must answer this and leave the object as it was. */
    static void asks(String what, PhaseConverter x, long due, Call call) {
        long before = x.digest();
        same(what, call.answer(), due);
        same("digest after the question " + what, x.digest(), before);
    }

    static void fail(String text) {
        wrong++;
        printed++;
        if (printed <= MOST_LINES) {
            System.out.println(text);
        }
    }

    static int wrongSoFar() {
        return wrong;
    }

    static void counts(String when, PhaseConverter x, int... due) {
        for (int what = 0; what < due.length; what++) {
            same(when + ": count(" + what + ")", x.count(what), due[what]);
        }
    }

    static void phase(String when, PhaseConverter x, int phase, int... due) {
        for (int what = 0; what < due.length; what++) {
            same(when + ": phase(" + phase + ", " + what + ")", x.phase(phase, what), due[what]);
        }
    }

    static void record(String when, PhaseConverter x, int index, int... due) {
        for (int what = 0; what < due.length; what++) {
            same(when + ": record(" + index + ", " + what + ")", x.record(index, what), due[what]);
        }
    }

    static void end(String name) {
        System.out.println(name + ": " + done + " checks, " + wrong + " wrong");
        if (wrong != 0) {
            System.exit(1);
        }
    }
}
