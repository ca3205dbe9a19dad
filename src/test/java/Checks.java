import java.util.function.IntConsumer;
import java.util.function.IntUnaryOperator;
import java.util.function.Supplier;

/** What the tests of the promises share: they count what is not as it is due. */
final class Checks {
    private static int done = 0;
    private static int wrong = 0;

    private Checks() {
    }

    static void equal(String what, long want, long got) {
        done++;
        if (want != got) {
            wrong++;
            System.out.println(what + " answered " + got + ", due is " + want);
        }
    }

    static void equal(String what, double want, double got) {
        done++;
        if (!(want == got)) {
            wrong++;
            System.out.println(what + " answered " + got + ", due is " + want);
        }
    }

    /** The call throws exactly an exception of this class, and changes nothing. */
    static void refused(String what, SightLegend x, Class<?> want, Runnable call) {
        long before = x.digest();
        Class<?> got = null;
        try {
            call.run();
        } catch (RuntimeException e) {
            got = e.getClass();
        }
        done++;
        if (got != want) {
            wrong++;
            System.out.println(what + " threw " + got + ", due is " + want);
        }
        equal(what + ", the digest behind it", before, x.digest());
    }

    /** Runs a test; whether it looked at something, found nothing wrong and threw nothing. */
    static boolean allRight(Runnable test) {
        int doneBefore = done;
        int wrongBefore = wrong;
        try {
            test.run();
        } catch (RuntimeException | Error e) {
            wrong++;
            System.out.println("the test threw " + e);
        }
        return done > doneBefore && wrong == wrongBefore;
    }

    /** All these arguments are refused, each by itself. */
    static void refusedAll(SightLegend x, Class<?> want, IntConsumer call, int... arguments) {
        for (int argument : arguments) {
            refused("the argument " + argument, x, want, () -> call.accept(argument));
        }
    }

    /** The change saves one state, and undo brings that back; fewer than 4 are saved before. */
    static void undone(String what, SightLegend x, int saved, Runnable change) {
        long before = x.digest();
        change.run();
        equal(what + ", undo", saved, x.undo());
        equal(what + ", the digest behind undo", before, x.digest());
    }

    /** The calls change nothing that the digest tells, the number of saved states included. */
    static void changesNothing(String what, SightLegend x, Runnable calls) {
        long before = x.digest();
        calls.run();
        equal(what + ", the digest behind it", before, x.digest());
    }

    static void differ(String what, long one, long other) {
        equal(what + " differ", 1, one != other ? 1 : 0);
    }

    static void noIndex(String what, SightLegend x, Runnable call) {
        refused(what, x, IndexOutOfBoundsException.class, call);
    }

    static void noArgument(String what, SightLegend x, Runnable call) {
        refused(what, x, IllegalArgumentException.class, call);
    }

    static void noState(String what, SightLegend x, Runnable call) {
        refused(what, x, IllegalStateException.class, call);
    }

    /** The facts of a line, without its place: type, kind, group, first and last class, signs. */
    static void line(SightLegend x, int line, int... want) {
        for (int what = 0; what < want.length; what++) {
            equal("line(" + line + ", " + what + ")", want[what], x.line(line, what));
        }
    }

    /** The column and the place of each line, in their order. */
    static void places(SightLegend x, int... want) {
        equal("lines()", want.length / 2, x.lines());
        for (int line = 0; line < want.length / 2; line++) {
            equal("the column of line " + line, want[2 * line], x.line(line, 6));
            equal("the place of line " + line, want[2 * line + 1], x.line(line, 7));
        }
    }

    static void values(SightLegend x, int first, int... want) {
        for (int i = 0; i < want.length; i++) {
            equal("value(" + (first + i) + ")", want[i], x.value(first + i));
        }
    }

    static void sign(SightLegend x, int sign, int... want) {
        for (int what = 0; what < want.length; what++) {
            equal("sign(" + sign + ", " + what + ")", want[what], x.sign(sign, what));
        }
    }

    static void kind(SightLegend x, int kind, int... want) {
        for (int what = 0; what < want.length; what++) {
            equal("kind(" + kind + ", " + what + ")", want[what], x.kind(kind, what));
        }
    }

    static void box(SightLegend x, int... want) {
        for (int what = 0; what < want.length; what++) {
            equal("box(" + what + ")", want[what], x.box(what));
        }
    }

    static void rounds(SightLegend x, int... want) {
        for (int what = 0; what < want.length; what++) {
            equal("rounds(" + what + ")", want[what], x.rounds(what));
        }
    }

    static void write(SightLegend x, String text) {
        x.clearText();
        for (int i = 0; i < text.length(); i++) {
            equal("append in " + text, i + 1, x.append(text.charAt(i)));
        }
    }

    /** The hash that promise 27 tells, from the answers of the other calls; for a small map. */
    static long digestOf(SightLegend x, int textLength, int savedStates, int... ways) {
        return digestOf(() -> x, textLength, savedStates, ways);
    }

    /** As above, for a large map: it is made anew again and again, for an object has 512 calls. */
    static long digestOf(Supplier<SightLegend> map, int textLength, int savedStates, int... ways) {
        long h = 31 * 3391L + textLength;
        h = hash(h, map.get()::value, 12);
        for (int way : ways) {
            h = 31 * h + way;
        }
        for (int i = 0; i < 12; i++) {
            int kind = i;
            SightLegend x = map.get();
            h = hash(h, what -> x.kind(kind, what), 10);
        }
        int signs = map.get().value(9);
        for (int i = 0; i < signs; i++) {
            int sign = i;
            SightLegend x = map.get();
            h = hash(h, what -> x.sign(sign, what), 9);
        }
        int lines = map.get().lines();
        for (int i = 0; i < lines; i++) {
            int line = i;
            SightLegend x = map.get();
            h = hash(h, what -> x.line(line, what), 8);
        }
        h = hash(h, map.get()::box, 6);
        h = hash(h, map.get()::rounds, 3);
        return 31 * h + savedStates;
    }

    private static long hash(long start, IntUnaryOperator facts, int count) {
        long h = start;
        for (int what = 0; what < count; what++) {
            h = 31 * h + facts.applyAsInt(what);
        }
        return h;
    }

    /** Ends the test, with exit code 1 if an answer was wrong. */
    static void end() {
        System.out.println(done + " checks, " + wrong + " wrong");
        if (wrong != 0 || done == 0) {
            System.exit(1);
        }
    }
}
