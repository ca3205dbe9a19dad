/** Promise 4: moveSign. */
final class Promise04Edges {
    private static final String MOVES = "Moves a sign. Undoable.";
    private static final String RETURNS = "Returns the previous column.";
    private static final String NO_SIGN = "Throws `IndexOutOfBoundsException` if there is no such sign";
    private static final String NO_PLACE = "Throws `IllegalArgumentException` if column or row is out of range";

    private Promise04Edges() {
    }

    private static SightLegend two() {
        SightLegend x = new SightLegend();
        x.addSign(1, 0, 21, 31, 1);
        x.addSign(2, 199, 22, 32, 2);
        return x;
    }

    static void tests() {
        Sentences.of("Promise 4");
        Sentences.range("`sign`: number of a sign", 0, 1, IndexOutOfBoundsException.class, Promise04Edges::two,
                (x, a) -> x.moveSign(a, 5, 6));
        Sentences.range("`column`: 0 to 199", 0, 199, IllegalArgumentException.class, Promise04Edges::two,
                (x, a) -> x.moveSign(1, a, 6), x -> x.sign(1, 1));
        Sentences.range("`row`: 0 to 199", 0, 199, IllegalArgumentException.class, Promise04Edges::two,
                (x, a) -> x.moveSign(1, 5, a), x -> x.sign(1, 2));
        Sentences.holds(MOVES, "that sign alone, and its place alone", () -> {
            SightLegend x = two();
            x.moveSign(1, 50, 60);
            Checks.sign(x, 0, 1, 0, 21, 31, 1);
            Checks.sign(x, 1, 2, 50, 60, 32, 2);
        });
        Sentences.holds(MOVES, "undo of a move", () -> {
            SightLegend x = two();
            Checks.undone("moveSign", x, 2, () -> x.moveSign(0, 50, 60));
            Checks.sign(x, 0, 1, 0, 21, 31, 1);
        });
        Sentences.holds(MOVES, "undo of a move to the same place", () -> {
            SightLegend x = two();
            Checks.undone("moveSign", x, 2, () -> x.moveSign(0, 0, 21));
        });
        Sentences.holds(RETURNS, "the smallest and the largest", () -> {
            SightLegend x = two();
            Checks.equal("moveSign(0)", 0, x.moveSign(0, 199, 0));
            Checks.equal("moveSign(0) back", 199, x.moveSign(0, 0, 199));
            Checks.equal("moveSign(1)", 199, x.moveSign(1, 199, 22));
        });
        refusals();
    }

    private static void refusals() {
        Sentences.holds(NO_SIGN, "empty: no sign at all", () -> {
            SightLegend x = new SightLegend();
            Checks.refusedAll(x, IndexOutOfBoundsException.class, a -> x.moveSign(a, 1, 1), -1, 0, 1);
        });
        Sentences.holds(NO_SIGN, "the number behind the last sign", () -> {
            SightLegend x = two();
            Checks.refusedAll(x, IndexOutOfBoundsException.class, a -> x.moveSign(a, 1, 1), -1, 2, 3, 39, 40);
        });
        Sentences.holds(NO_SIGN, "full: there is no sign 40", () -> {
            SightLegend x = Promise02Edges.withSigns(40);
            Checks.noIndex("moveSign(40)", x, () -> x.moveSign(40, 1, 1));
            Checks.equal("moveSign(39)", 69, x.moveSign(39, 1, 1));
        });
        Sentences.holds(NO_SIGN, "thrown before the other", () -> {
            SightLegend x = two();
            Checks.noIndex("a wrong column too", x, () -> x.moveSign(2, 200, 0));
            Checks.noIndex("a wrong row too", x, () -> x.moveSign(-1, 0, -1));
        });
        Sentences.holds(NO_PLACE, "a wrong column moves nothing", () -> {
            SightLegend x = two();
            Checks.noArgument("column -1", x, () -> x.moveSign(0, -1, 5));
            Checks.noArgument("column 200", x, () -> x.moveSign(0, 200, 5));
            Checks.sign(x, 0, 1, 0, 21, 31, 1);
        });
        Sentences.holds(NO_PLACE, "a wrong row moves nothing", () -> {
            SightLegend x = two();
            Checks.noArgument("row -1", x, () -> x.moveSign(0, 5, -1));
            Checks.noArgument("row 200", x, () -> x.moveSign(0, 5, 200));
            Checks.sign(x, 0, 1, 0, 21, 31, 1);
        });
    }
}
