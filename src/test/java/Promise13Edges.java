/** Promise 13: lines. */
final class Promise13Edges {
    private static final String RETURNS = "Returns their number.";

    private Promise13Edges() {
    }

    /** A sign of each class of each kind, as many as a map can have, and all five headings. */
    static SightLegend mostLines() {
        SightLegend x = new SightLegend();
        x.set(0, 6);
        x.set(2, 1);
        x.set(3, 1);
        for (int kind = 0; kind < 10; kind++) {
            x.setKind(kind, kind, kind / 2);
            for (int value = 0; value < 4; value++) {
                if (value > 0) {
                    x.limit(kind, value);
                }
                x.addSign(kind, 50, 50, value, 0);
            }
        }
        return x;
    }

    static void tests() {
        Sentences.of("Promise 13");
        Sentences.holds(RETURNS, "empty: no signs", () -> Checks.equal("lines()", 0, new SightLegend().lines()));
        Sentences.holds(RETURNS, "no sign shown", () -> {
            SightLegend x = Promise10Edges.corners();
            x.setWindow(100, 100, 10, 10, 5);
            Checks.equal("lines()", 0, x.lines());
        });
        Sentences.holds(RETURNS, "all signs covered: the last round has no line", () ->
                Checks.equal("lines()", 0, Promise10Edges.allCovered(40).lines()));
        Sentences.holds(RETURNS, "one sign", () -> {
            SightLegend x = new SightLegend();
            x.addSign(11, 50, 50, 9999, 5);
            Checks.equal("lines()", 1, x.lines());
        });
        Sentences.holds(RETURNS, "a full map with a line for each sign, and five headings", () ->
                Checks.equal("lines()", 45, mostLines().lines()));
        Sentences.holds(RETURNS, "five joined lines", () -> {
            SightLegend x = mostLines();
            for (int group = 0; group < 5; group++) {
                x.setWay(group, 1);
            }
            Checks.equal("lines()", 5, x.lines());
        });
    }
}
