/** Promise 22: linesSaved. */
final class Promise22Edges {
    private static final String TELLS =
            "Tells how many lines of the legend would go, or come, if a sign were not there.";
    private static final String RETURNS = "Returns the number of lines now, minus that without it.";
    private static final String NO_SIGN = "Throws `IndexOutOfBoundsException` if there is no such sign";

    private Promise22Edges() {
    }

    /** A group of the kinds 4 and 5, with two signs of kind 5. */
    private static SightLegend group(int way) {
        SightLegend x = new SightLegend();
        x.setKind(4, 4, 1);
        x.setKind(5, 5, 1);
        x.setWay(1, way);
        x.addSign(4, 50, 50, 0, 0);
        x.addSign(5, 50, 50, 0, 0);
        x.addSign(5, 51, 50, 0, 0);
        return x;
    }

    static void tests() {
        Sentences.of("Promise 22");
        Sentences.range("`sign`: number of a sign", 0, 3, IndexOutOfBoundsException.class, Promise10Edges::corners,
                SightLegend::linesSaved);
        Sentences.holds(RETURNS, "the only sign", () -> {
            SightLegend x = new SightLegend();
            x.addSign(11, 50, 50, 0, 0);
            Checks.equal("linesSaved(0)", 1, x.linesSaved(0));
        });
        Sentences.holds(RETURNS, "0 of one of several of a line", () -> {
            Checks.equal("linesSaved(1)", 0, group(0).linesSaved(1));
            Checks.equal("linesSaved(2)", 0, group(0).linesSaved(2));
        });
        Sentences.holds(RETURNS, "0 of a sign that is not shown", () -> {
            SightLegend x = group(0);
            x.addSign(0, 100, 50, 0, 0);
            Checks.equal("linesSaved(3)", 0, x.linesSaved(3));
        });
        Sentences.holds(RETURNS, "the last sign of a full map", () -> {
            SightLegend x = Promise13Edges.mostLines();
            Checks.equal("linesSaved(39)", 1, x.linesSaved(39));
        });
        Sentences.holds(TELLS, "a line and its heading go", () ->
                Checks.equal("linesSaved(0)", 2, group(0).linesSaved(0)));
        Sentences.holds(TELLS, "a joined line becomes the line of one kind", () ->
                Checks.equal("linesSaved(0)", 0, group(1).linesSaved(0)));
        Sentences.holds(TELLS, "a joined line becomes a heading and two lines", () -> {
            SightLegend x = group(1);
            x.setKind(6, 6, 1);
            x.addSign(6, 50, 50, 0, 0);
            Checks.equal("linesSaved(3)", -2, x.linesSaved(3));
        });
        Sentences.holds(TELLS, "lines come when a covering box has less to cover", () -> {
            // with both signs the box covers the window; with one it covers half of it
            SightLegend x = new SightLegend();
            x.setWindow(0, 0, 10, 10, 5);
            x.set(2, 10);
            x.set(3, 5);
            x.addSign(0, 5, 2, 0, 0);
            x.addSign(1, 5, 7, 0, 0);
            Checks.equal("lines()", 0, x.lines());
            Checks.equal("linesSaved(0)", -1, x.linesSaved(0));
            Checks.equal("linesSaved(1)", -1, x.linesSaved(1));
        });
        Sentences.holds(TELLS, "nothing changes, and nothing is saved", () -> {
            SightLegend x = group(0);
            Checks.changesNothing("linesSaved", x, () -> x.linesSaved(0));
            Checks.equal("value(9)", 3, x.value(9));
        });
        Sentences.holds(TELLS, "behind other calls that ask what if", () -> {
            SightLegend x = group(0);
            Checks.equal("linesSaved(0)", 2, x.linesSaved(0));
            Checks.equal("linesSaved(1)", 0, x.linesSaved(1));
            Checks.equal("linesAt(50, 50)", 3, x.linesAt(50, 50));
            Checks.equal("linesSaved(0)", 2, x.linesSaved(0));
            Checks.equal("bestColumns()", 1, x.bestColumns());
            Checks.equal("linesSaved(0)", 2, x.linesSaved(0));
        });
        Sentences.holds(NO_SIGN, "empty: no sign at all", () -> {
            SightLegend x = new SightLegend();
            Checks.refusedAll(x, IndexOutOfBoundsException.class, x::linesSaved, -1, 0, 1);
        });
        Sentences.holds(NO_SIGN, "the number behind the last sign", () -> {
            SightLegend x = group(0);
            Checks.refusedAll(x, IndexOutOfBoundsException.class, x::linesSaved, -1, 3, 4, 39, 40);
        });
        Sentences.holds(NO_SIGN, "full: there is no sign 40", () -> {
            SightLegend x = Promise02Edges.withSigns(40);
            Checks.noIndex("linesSaved(40)", x, () -> x.linesSaved(40));
        });
    }
}
