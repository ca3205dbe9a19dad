/** Promise 6: set. */
final class Promise06Edges {
    private static final String SETS = "Sets a setting. Undoable.";
    private static final String WHAT = "`what`: 0 to 3";
    private static final String VALUE = "`value`: the new value, in its range";
    private static final String RETURNS = "Returns the previous value.";
    private static final String NO_ARGUMENT =
            "Throws `IllegalArgumentException` if what or value is out of range";
    private static final int[] INITIAL = {3, 1, 20, 5};
    private static final int[] HIGHEST = {6, 4, 60, 20};

    private Promise06Edges() {
    }

    static void tests() {
        Sentences.of("Promise 6");
        Sentences.range(WHAT, 0, 3, IllegalArgumentException.class, SightLegend::new, (x, a) -> x.set(a, 1));
        for (int what = 0; what < 4; what++) {
            int w = what;
            Sentences.range(VALUE, 1, HIGHEST[w], IllegalArgumentException.class, SightLegend::new,
                    (x, a) -> x.set(w, a), x -> x.value(w));
        }
        Sentences.holds(SETS, "that one alone", Promise06Edges::alone);
        Sentences.holds(SETS, "undo", () -> {
            SightLegend x = new SightLegend();
            Checks.undone("set(0)", x, 0, () -> x.set(0, 6));
            Checks.undone("set(1)", x, 0, () -> x.set(1, 4));
            Checks.undone("set(2)", x, 0, () -> x.set(2, 60));
            Checks.undone("set(3)", x, 0, () -> x.set(3, 20));
        });
        Sentences.holds(SETS, "undo of the same value", () -> {
            SightLegend x = new SightLegend();
            Checks.undone("set(2)", x, 0, () -> x.set(2, 20));
        });
        Sentences.holds(RETURNS, "the initial one, the largest, the smallest", () -> {
            for (int what = 0; what < 4; what++) {
                SightLegend x = new SightLegend();
                Checks.equal("set(" + what + ")", INITIAL[what], x.set(what, HIGHEST[what]));
                Checks.equal("set(" + what + ")", HIGHEST[what], x.set(what, 1));
                Checks.equal("set(" + what + ")", 1, x.set(what, 1));
            }
        });
        Sentences.holds(NO_ARGUMENT, "what", () -> {
            SightLegend x = new SightLegend();
            Checks.refusedAll(x, IllegalArgumentException.class, a -> x.set(a, 3), -1, 4, 5, 11);
            Checks.noArgument("both", x, () -> x.set(4, 0));
        });
        Sentences.holds(NO_ARGUMENT, "a value that another setting could have", () -> {
            SightLegend x = new SightLegend();
            Checks.noArgument("set(0, 7)", x, () -> x.set(0, 7));
            Checks.noArgument("set(1, 5)", x, () -> x.set(1, 5));
            Checks.noArgument("set(3, 21)", x, () -> x.set(3, 21));
        });
        Sentences.holds(NO_ARGUMENT, "no setting can be 0 or less", () -> {
            SightLegend x = new SightLegend();
            for (int what = 0; what < 4; what++) {
                int w = what;
                Checks.refusedAll(x, IllegalArgumentException.class, a -> x.set(w, a), 0, -1);
            }
            Checks.values(x, 0, INITIAL);
        });
    }

    private static void alone() {
        for (int what = 0; what < 4; what++) {
            SightLegend x = new SightLegend();
            x.set(what, HIGHEST[what]);
            for (int other = 0; other < 4; other++) {
                int due = other == what ? HIGHEST[other] : INITIAL[other];
                Checks.equal("value(" + other + ")", due, x.value(other));
            }
        }
    }
}
