/** Promise 5: setWindow. */
final class Promise05Edges {
    private static final String SETS = "Sets the window. Undoable.";
    private static final String RETURNS = "Returns the number of shown signs then.";
    private static final String NO_ARGUMENT = "Throws `IllegalArgumentException` if an argument is out of range";

    private Promise05Edges() {
    }

    static void tests() {
        Sentences.of("Promise 5");
        Class<?> refusal = IllegalArgumentException.class;
        Sentences.range("`left`: 0 to 199", 0, 199, refusal, SightLegend::new,
                (x, a) -> x.setWindow(a, 1, 20, 30, 2), x -> x.value(4));
        Sentences.range("`top`: 0 to 199", 0, 199, refusal, SightLegend::new,
                (x, a) -> x.setWindow(1, a, 20, 30, 2), x -> x.value(5));
        Sentences.range("`width`: 10 to 200", 10, 200, refusal, SightLegend::new,
                (x, a) -> x.setWindow(1, 2, a, 30, 2), x -> x.value(6));
        Sentences.range("`height`: 10 to 200", 10, 200, refusal, SightLegend::new,
                (x, a) -> x.setWindow(1, 2, 20, a, 2), x -> x.value(7));
        Sentences.range("`zoom`: 0 to 5", 0, 5, refusal, SightLegend::new,
                (x, a) -> x.setWindow(1, 2, 20, 30, a), x -> x.value(8));
        Sentences.holds(SETS, "the smallest and the largest of all at once", () -> {
            SightLegend x = new SightLegend();
            x.setWindow(199, 199, 200, 200, 5);
            Checks.values(x, 4, 199, 199, 200, 200, 5);
            x.setWindow(0, 0, 10, 10, 0);
            Checks.values(x, 4, 0, 0, 10, 10, 0);
        });
        Sentences.holds(SETS, "undo", () -> {
            SightLegend x = Promise02Edges.withSigns(2);
            Checks.undone("setWindow", x, 2, () -> x.setWindow(199, 198, 10, 11, 0));
            Checks.values(x, 4, 0, 0, 100, 100, 5);
        });
        Sentences.holds(SETS, "undo of the same window", () -> {
            SightLegend x = Promise02Edges.withSigns(2);
            Checks.undone("setWindow", x, 2, () -> x.setWindow(0, 0, 100, 100, 5));
        });
        Sentences.holds(RETURNS, "empty: no signs", () ->
                Checks.equal("setWindow", 0, new SightLegend().setWindow(0, 0, 200, 200, 5)));
        Sentences.holds(RETURNS, "none of a full map", () ->
                Checks.equal("setWindow", 0, Promise02Edges.withSigns(40).setWindow(199, 199, 200, 200, 5)));
        Sentences.holds(RETURNS, "all of a full map", () ->
                Checks.equal("setWindow", 40, Promise02Edges.withSigns(40).setWindow(0, 0, 200, 200, 5)));
        Sentences.holds(RETURNS, "then, not before", () -> {
            SightLegend x = Promise02Edges.withSigns(40);
            Checks.equal("a window of ten signs", 10, x.setWindow(30, 40, 10, 200, 5));
            Checks.equal("and of their first level alone", 2, x.setWindow(30, 40, 10, 200, 0));
            Checks.equal("value(10)", 2, x.value(10));
        });
        refusals();
    }

    private static void refusals() {
        Sentences.holds(NO_ARGUMENT, "each by itself, and nothing changes", () -> {
            SightLegend x = Promise02Edges.withSigns(2);
            int[][] wrong = {
                {-1, 1, 20, 30, 2}, {200, 1, 20, 30, 2}, {1, -1, 20, 30, 2}, {1, 200, 20, 30, 2},
                {1, 1, 9, 30, 2}, {1, 1, 201, 30, 2}, {1, 1, 20, 9, 2}, {1, 1, 20, 201, 2},
                {1, 1, 20, 30, -1}, {1, 1, 20, 30, 6}, {1, 1, 0, 30, 2}, {1, 1, 20, -30, 2},
            };
            for (int[] a : wrong) {
                Checks.noArgument("setWindow", x, () -> x.setWindow(a[0], a[1], a[2], a[3], a[4]));
            }
            Checks.values(x, 4, 0, 0, 100, 100, 5);
        });
    }
}
