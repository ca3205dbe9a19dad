/** Promise 19: linesAt. */
final class Promise19Edges {
    private static final String TELLS =
            "Tells how many lines the legend would have with another window of the same size and zoom.";
    private static final String RETURNS = "Returns the number of lines.";
    private static final String NO_PLACE = "Throws `IllegalArgumentException` if left or top is out of range";

    private Promise19Edges() {
    }

    /** A window of 30 to 40 with zoom 3, of which no sign is in sight. */
    private static SightLegend map() {
        SightLegend x = new SightLegend();
        x.setWindow(0, 0, 30, 40, 3);
        x.set(2, 2);
        x.set(3, 2);
        x.addSign(0, 100, 120, 0, 3);
        x.addSign(1, 199, 199, 0, 0);
        return x;
    }

    static void tests() {
        Sentences.of("Promise 19");
        Sentences.range("`left`: 0 to 199", 0, 199, IllegalArgumentException.class, Promise19Edges::map,
                (x, a) -> x.linesAt(a, 5));
        Sentences.range("`top`: 0 to 199", 0, 199, IllegalArgumentException.class, Promise19Edges::map,
                (x, a) -> x.linesAt(5, a));
        Sentences.holds(TELLS, "the same width", () -> {
            SightLegend x = map();
            Checks.equal("at its first column", 1, x.linesAt(100, 100));
            Checks.equal("behind it", 0, x.linesAt(101, 100));
            Checks.equal("at its last column", 1, x.linesAt(71, 100));
            Checks.equal("before it", 0, x.linesAt(70, 100));
        });
        Sentences.holds(TELLS, "the same height", () -> {
            SightLegend x = map();
            Checks.equal("at its first row", 1, x.linesAt(90, 120));
            Checks.equal("below it", 0, x.linesAt(90, 121));
            Checks.equal("at its last row", 1, x.linesAt(90, 81));
            Checks.equal("above it", 0, x.linesAt(90, 80));
        });
        Sentences.holds(TELLS, "the same zoom", () -> {
            SightLegend x = map();
            x.addSign(2, 101, 121, 0, 4);
            Checks.equal("with zoom 3", 1, x.linesAt(90, 110));
            x.setWindow(0, 0, 30, 40, 4);
            Checks.equal("with zoom 4", 2, x.linesAt(90, 110));
        });
        Sentences.holds(TELLS, "nothing changes, and nothing is saved", () -> {
            SightLegend x = Promise10Edges.corners();
            Checks.changesNothing("linesAt", x, () -> x.linesAt(199, 199));
            Checks.values(x, 4, 0, 0, 100, 100, 5);
            Checks.values(x, 9, 4, 4, 3);
        });
        Sentences.holds(TELLS, "behind other calls that ask what if", () -> {
            SightLegend x = map();
            Checks.equal("linesAt(199, 199)", 1, x.linesAt(199, 199));
            Checks.equal("linesAt(0, 0)", 0, x.linesAt(0, 0));
            Checks.equal("linesSaved(0)", 0, x.linesSaved(0));
            Checks.equal("linesAt(90, 110)", 1, x.linesAt(90, 110));
            Checks.equal("bestColumns()", 1, x.bestColumns());
            Checks.equal("linesAt(90, 110)", 1, x.linesAt(90, 110));
        });
        Sentences.holds(RETURNS, "empty: no signs", () ->
                Checks.equal("linesAt", 0, new SightLegend().linesAt(0, 0)));
        Sentences.holds(RETURNS, "the window as it is", () -> {
            SightLegend x = TermsRoundsEdges.fiveLinesThenFour();
            Checks.equal("linesAt(0, 0)", 4, x.linesAt(0, 0));
            SightLegend most = Promise13Edges.mostLines();
            Checks.equal("linesAt(0, 0) of the most lines", 45, most.linesAt(0, 0));
        });
        Sentences.holds(RETURNS, "the last corner of the map", () ->
                Checks.equal("linesAt", 1, map().linesAt(199, 199)));
        Sentences.holds(RETURNS, "of the last round, not of the first", () -> {
            SightLegend x = Promise10Edges.allCovered(3);
            x.setWindow(50, 50, 10, 10, 5);
            Checks.equal("linesAt(0, 0)", 0, x.linesAt(0, 0));
        });
        Sentences.holds(NO_PLACE, "refused", () -> {
            SightLegend x = map();
            Checks.refusedAll(x, IllegalArgumentException.class, a -> x.linesAt(a, 5), -1, 200);
            Checks.refusedAll(x, IllegalArgumentException.class, a -> x.linesAt(5, a), -1, 200);
            Checks.refusedAll(x, IllegalArgumentException.class, a -> x.linesAt(a, a), -1, 200);
        });
    }
}
