/** Promise 2: addSign. */
final class Promise02Edges {
    private static final String NO_KIND = "Throws `IndexOutOfBoundsException` if there is no such kind";
    private static final String NO_ARGUMENT = "Throws `IllegalArgumentException` if another argument is out of range";
    private static final String FULL = "Throws `IllegalStateException` if there are 40 signs";
    private static final String ADDS = "Adds a sign. Undoable.";
    private static final String RETURNS = "Returns the number of the sign.";

    private Promise02Edges() {
    }

    static SightLegend withSigns(int count) {
        SightLegend x = new SightLegend();
        for (int i = 0; i < count; i++) {
            x.addSign(i % 12, 30 + i, 40 + i, i, i % 6);
        }
        return x;
    }

    static void tests() {
        Sentences.of("Promise 2");
        ranges();
        Sentences.holds(ADDS, "the first sign", () -> {
            SightLegend x = new SightLegend();
            Checks.undone("addSign", x, 0, () -> x.addSign(0, 0, 0, 0, 0));
        });
        Sentences.holds(ADDS, "the 40th sign", () -> {
            SightLegend x = withSigns(39);
            x.addSign(1, 2, 3, 4, 5);
            Checks.equal("undo", 3, x.undo());
            Checks.equal("the signs behind undo", 39, x.value(9));
            Checks.sign(x, 38, 2, 68, 78, 38, 2);
        });
        Sentences.holds(ADDS, "the signs before it stay as they are", () -> {
            SightLegend x = withSigns(1);
            x.addSign(11, 199, 198, 9999, 5);
            Checks.sign(x, 0, 0, 30, 40, 0, 0);
            Checks.sign(x, 1, 11, 199, 198, 9999, 5);
        });
        Sentences.holds(ADDS, "a sign quite like another is a sign of its own", () -> {
            SightLegend x = new SightLegend();
            x.addSign(3, 4, 5, 6, 1);
            Checks.equal("the second one", 1, x.addSign(3, 4, 5, 6, 1));
            Checks.equal("value(9)", 2, x.value(9));
        });
        Sentences.holds(RETURNS, "the first one", () ->
                Checks.equal("addSign", 0, new SightLegend().addSign(5, 1, 1, 1, 1)));
        Sentences.holds(RETURNS, "the 40th one", () ->
                Checks.equal("addSign", 39, withSigns(39).addSign(5, 1, 1, 1, 1)));
        Sentences.holds(RETURNS, "behind a removed one", () -> {
            SightLegend x = withSigns(3);
            x.removeSign(0);
            Checks.equal("addSign", 2, x.addSign(5, 1, 1, 1, 1));
        });
        Sentences.holds(NO_KIND, "refused", () -> {
            SightLegend x = withSigns(2);
            Checks.refusedAll(x, IndexOutOfBoundsException.class, a -> x.addSign(a, 1, 1, 1, 1),
                    -2, -1, 12, 13, 99, Integer.MIN_VALUE, Integer.MAX_VALUE);
        });
        Sentences.holds(NO_KIND, "thrown before the others", () -> {
            SightLegend x = withSigns(40);
            Checks.noIndex("a wrong column too", x, () -> x.addSign(12, 200, 0, 0, 0));
            Checks.noIndex("a wrong row too", x, () -> x.addSign(-1, 0, -1, 0, 0));
            Checks.noIndex("a wrong value too", x, () -> x.addSign(12, 0, 0, 10000, 0));
            Checks.noIndex("a wrong level too", x, () -> x.addSign(-1, 0, 0, 0, 6));
            Checks.noIndex("a full map", x, () -> x.addSign(12, 0, 0, 0, 0));
        });
        Sentences.holds(NO_ARGUMENT, "refused", Promise02Edges::wrongArguments);
        Sentences.holds(NO_ARGUMENT, "thrown before the full map", () -> {
            SightLegend x = withSigns(40);
            Checks.noArgument("column", x, () -> x.addSign(0, 200, 0, 0, 0));
            Checks.noArgument("row", x, () -> x.addSign(0, 0, 200, 0, 0));
            Checks.noArgument("value", x, () -> x.addSign(0, 0, 0, -1, 0));
            Checks.noArgument("level", x, () -> x.addSign(0, 0, 0, 0, -1));
        });
        full();
    }

    private static void ranges() {
        Sentences.range("`kind`: 0 to 11", 0, 11, IndexOutOfBoundsException.class, SightLegend::new,
                (x, a) -> x.addSign(a, 1, 2, 3, 4), x -> x.sign(0, 0));
        Sentences.range("`column`: 0 to 199", 0, 199, IllegalArgumentException.class, SightLegend::new,
                (x, a) -> x.addSign(1, a, 2, 3, 4), x -> x.sign(0, 1));
        Sentences.range("`row`: 0 to 199", 0, 199, IllegalArgumentException.class, SightLegend::new,
                (x, a) -> x.addSign(1, 2, a, 3, 4), x -> x.sign(0, 2));
        Sentences.range("`value`: 0 to 9999", 0, 9999, IllegalArgumentException.class, SightLegend::new,
                (x, a) -> x.addSign(1, 2, 3, a, 4), x -> x.sign(0, 3));
        Sentences.range("`level`: 0 to 5", 0, 5, IllegalArgumentException.class, SightLegend::new,
                (x, a) -> x.addSign(1, 2, 3, 4, a), x -> x.sign(0, 4));
    }

    private static void wrongArguments() {
        SightLegend x = withSigns(2);
        int[][] wrong = {
            {-1, 1, 1, 1}, {200, 1, 1, 1}, {1, -1, 1, 1}, {1, 200, 1, 1},
            {1, 1, -1, 1}, {1, 1, 10000, 1}, {1, 1, 1, -1}, {1, 1, 1, 6},
        };
        for (int[] a : wrong) {
            Checks.noArgument("a wrong argument", x, () -> x.addSign(11, a[0], a[1], a[2], a[3]));
        }
    }

    private static void full() {
        Sentences.holds(FULL, "39 signs: taken", () ->
                Checks.equal("addSign", 39, withSigns(39).addSign(0, 0, 0, 0, 0)));
        Sentences.holds(FULL, "full: refused", () -> {
            SightLegend x = withSigns(40);
            Checks.noState("addSign", x, () -> x.addSign(0, 0, 0, 0, 0));
            Checks.noState("addSign again", x, () -> x.addSign(11, 199, 199, 9999, 5));
            Checks.equal("the signs", 40, x.value(9));
        });
        Sentences.holds(FULL, "no longer full", () -> {
            SightLegend x = withSigns(40);
            x.removeSign(20);
            Checks.equal("addSign behind removeSign", 39, x.addSign(0, 0, 0, 0, 0));
            Checks.noState("full again", x, () -> x.addSign(0, 0, 0, 0, 0));
            x.undo();
            Checks.equal("addSign behind undo", 39, x.addSign(0, 0, 0, 0, 0));
        });
    }
}
