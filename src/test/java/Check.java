/** What the tests share: comparing answers, exceptions, and typing programs. */
final class Check {
    interface Call {
        long answer();
    }

    private static int wrong = 0;
    private static int done = 0;

    private Check() {
    }

    static void same(String what, long got, long due) {
        done++;
        if (got != due) {
            fail(what + " answered " + got + ", due is " + due);
        }
    }

    static void sameDouble(String what, double got, double due) {
        done++;
        if (Double.compare(got, due) != 0) {
            fail(what + " answered " + got + ", due is " + due);
        }
    }

    /** The call must throw exactly this class, and leave the object as it was. */
    static void refuses(String what, PhaseConverter x, Class<? extends RuntimeException> due, Call call) {
        long before = x.digest();
        try {
            long got = call.answer();
            fail(what + " answered " + got + ", due is " + due.getSimpleName());
        } catch (RuntimeException e) {
            same(what + " throws " + e.getClass().getSimpleName() + ", due is " + due.getSimpleName(),
                e.getClass() == due ? 1 : 0, 1);
        }
        same("digest after the refused " + what, x.digest(), before);
    }

    /** The call must answer this and leave the object as it was. */
    static void asks(String what, PhaseConverter x, long due, Call call) {
        long before = x.digest();
        same(what, call.answer(), due);
        same("digest after the question " + what, x.digest(), before);
    }

    static void fail(String text) {
        wrong++;
        if (wrong <= 40) {
            System.out.println(text);
        }
    }

    static int wrongSoFar() {
        return wrong;
    }

    static void type(PhaseConverter x, String text) {
        for (int i = 0; i < text.length(); i++) {
            x.append(text.charAt(i));
        }
    }

    static int play(PhaseConverter x, String text) {
        type(x, text);
        return x.play();
    }

    static void counts(String when, PhaseConverter x, int... due) {
        for (int what = 0; what < due.length; what++) {
            same(when + ": count(" + what + ")", x.count(what), due[what]);
        }
    }

    static void phase(String when, PhaseConverter x, int phase, int... due) {
        for (int what = 0; what < due.length; what++) {
            same(when + ": phase(" + phase + ", " + what + ")", x.phase(phase, what), due[what]);
        }
    }

    static void record(String when, PhaseConverter x, int index, int... due) {
        for (int what = 0; what < due.length; what++) {
            same(when + ": record(" + index + ", " + what + ")", x.record(index, what), due[what]);
        }
    }

    static void end(String name) {
        System.out.println(name + ": " + done + " checks, " + wrong + " wrong");
        if (wrong != 0) {
            System.exit(1);
        }
    }
}
