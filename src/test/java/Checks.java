/** What the tests of the promises share: they count what is not as it is due. */
final class Checks {
    private static int done = 0;
    private static int wrong = 0;

    private Checks() {
    }

    static void equal(String what, long want, long got) {
        done++;
        if (want != got) {
            wrong++;
            System.out.println(what + " answered " + got + ", due is " + want);
        }
    }

    static void equal(String what, double want, double got) {
        done++;
        if (!(want == got)) {
            wrong++;
            System.out.println(what + " answered " + got + ", due is " + want);
        }
    }

    /** The call throws exactly an exception of this class, and changes nothing. */
    static void refused(String what, SightLegend x, Class<?> want, Runnable call) {
        long before = x.digest();
        Class<?> got = null;
        try {
            call.run();
        } catch (RuntimeException e) {
            got = e.getClass();
        }
        done++;
        if (got != want) {
            wrong++;
            System.out.println(what + " threw " + got + ", due is " + want);
        }
        equal(what + ", the digest behind it", before, x.digest());
    }

    static void noIndex(String what, SightLegend x, Runnable call) {
        refused(what, x, IndexOutOfBoundsException.class, call);
    }

    static void noArgument(String what, SightLegend x, Runnable call) {
        refused(what, x, IllegalArgumentException.class, call);
    }

    static void noState(String what, SightLegend x, Runnable call) {
        refused(what, x, IllegalStateException.class, call);
    }

    /** The facts of a line, without its place: type, kind, group, first and last class, signs. */
    static void line(SightLegend x, int line, int... want) {
        for (int what = 0; what < want.length; what++) {
            equal("line(" + line + ", " + what + ")", want[what], x.line(line, what));
        }
    }

    static void box(SightLegend x, int... want) {
        for (int what = 0; what < want.length; what++) {
            equal("box(" + what + ")", want[what], x.box(what));
        }
    }

    static void rounds(SightLegend x, int... want) {
        for (int what = 0; what < want.length; what++) {
            equal("rounds(" + what + ")", want[what], x.rounds(what));
        }
    }

    static void write(SightLegend x, String text) {
        x.clearText();
        for (int i = 0; i < text.length(); i++) {
            equal("append in " + text, i + 1, x.append(text.charAt(i)));
        }
    }

    /** The hash that promise 27 tells, from the answers of the other calls. */
    static long digestOf(SightLegend x, int textLength, int savedStates, int... ways) {
        long h = 31 * 3391L + textLength;
        for (int what = 0; what < 12; what++) {
            h = 31 * h + x.value(what);
        }
        for (int way : ways) {
            h = 31 * h + way;
        }
        for (int kind = 0; kind < 12; kind++) {
            for (int what = 0; what < 10; what++) {
                h = 31 * h + x.kind(kind, what);
            }
        }
        for (int sign = 0; sign < x.value(9); sign++) {
            for (int what = 0; what < 9; what++) {
                h = 31 * h + x.sign(sign, what);
            }
        }
        for (int line = 0; line < x.lines(); line++) {
            for (int what = 0; what < 8; what++) {
                h = 31 * h + x.line(line, what);
            }
        }
        for (int what = 0; what < 6; what++) {
            h = 31 * h + x.box(what);
        }
        for (int what = 0; what < 3; what++) {
            h = 31 * h + x.rounds(what);
        }
        return 31 * h + savedStates;
    }

    /** Ends the test, with exit code 1 if an answer was wrong. */
    static void end() {
        System.out.println(done + " checks, " + wrong + " wrong");
        if (wrong != 0 || done == 0) {
            System.exit(1);
        }
    }
}
