/** Promise 20: bestColumns. */
final class Promise20Edges {
    private static final String FINDS =
            "Finds the number of legend columns with which the most signs would be explained.";
    private static final String RETURNS = "Returns the number, 1 to 4, of several the smallest one.";

    private Promise20Edges() {
    }

    /**
     * A kind at the left side, one at the right side and six in the middle, all in row 50. With up
     * to three columns the box of their eight lines is at least 60 rows high, so that it covers row
     * 50 at one of the sides; with four columns it is 40 rows high.
     */
    private static SightLegend four() {
        SightLegend x = new SightLegend();
        x.set(2, 5);
        x.set(3, 20);
        x.addSign(0, 0, 50, 0, 0);
        x.addSign(1, 99, 50, 0, 0);
        for (int kind = 2; kind < 8; kind++) {
            x.addSign(kind, 50, 50, 0, 0);
        }
        return x;
    }

    static void tests() {
        Sentences.of("Promise 20");
        Sentences.holds(RETURNS, "empty: of four that explain none, 1", () -> {
            SightLegend x = new SightLegend();
            Checks.equal("bestColumns()", 1, x.bestColumns());
            x.set(1, 4);
            Checks.equal("bestColumns() with four", 1, x.bestColumns());
        });
        Sentences.holds(RETURNS, "shown signs, of which none can be explained", () ->
                Checks.equal("bestColumns()", 1, Promise10Edges.allCovered(12).bestColumns()));
        Sentences.holds(RETURNS, "of four that explain all, 1", () -> {
            for (int present = 1; present <= 4; present++) {
                SightLegend x = Promise02Edges.withSigns(40);
                x.set(1, present);
                Checks.equal("bestColumns()", 1, x.bestColumns());
            }
        });
        Sentences.holds(RETURNS, "the largest, 4", () -> Checks.equal("bestColumns()", 4, four().bestColumns()));
        Sentences.holds(RETURNS, "of 2, 3 and 4 the smallest one", () -> {
            for (int present = 1; present <= 4; present++) {
                SightLegend x = four();
                x.set(3, 10);
                x.set(1, present);
                Checks.equal("bestColumns()", 2, x.bestColumns());
            }
        });
        Sentences.holds(FINDS, "whatever the present number is", () -> {
            for (int columns = 1; columns <= 4; columns++) {
                SightLegend x = four();
                x.set(1, columns);
                Checks.equal("explained with " + columns, columns == 4 ? 8 : 7, x.value(11));
                Checks.equal("bestColumns() with " + columns, 4, x.bestColumns());
            }
        });
        Sentences.holds(FINDS, "behind other calls that ask what if", () -> {
            SightLegend x = four();
            Checks.equal("linesAt(199, 199)", 0, x.linesAt(199, 199));
            Checks.equal("bestColumns()", 4, x.bestColumns());
            Checks.equal("linesSaved(2)", 1, x.linesSaved(2));
            Checks.equal("bestColumns()", 4, x.bestColumns());
        });
        Sentences.holds(FINDS, "nothing changes, and nothing is saved", () -> {
            SightLegend x = four();
            Checks.changesNothing("bestColumns", x, x::bestColumns);
            Checks.equal("value(1)", 1, x.value(1));
        });
    }
}
