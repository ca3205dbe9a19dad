/** Promise 18: explained. */
final class Promise18Edges {
    private static final String RETURNS = "Returns the number of explained signs, converted to double, "
            + "divided by that of shown ones, converted to double; 1.0 without shown signs.";
    private static final String NONE_SHOWN = "1.0 without shown signs";

    private Promise18Edges() {
    }

    static void tests() {
        Sentences.of("Promise 18");
        Sentences.holds(RETURNS, "none of them", () -> {
            Checks.equal("of one", 0.0, Promise10Edges.allCovered(1).explained());
            Checks.equal("of forty", 0.0, Promise10Edges.allCovered(40).explained());
        });
        Sentences.holds(RETURNS, "all of them", () -> {
            SightLegend one = new SightLegend();
            one.addSign(0, 50, 50, 0, 0);
            Checks.equal("of one", 1.0, one.explained());
            Checks.equal("of forty", 1.0, Promise02Edges.withSigns(40).explained());
        });
        Sentences.holds(RETURNS, "three of four", () ->
                Checks.equal("explained()", 0.75, Promise10Edges.corners().explained()));
        Sentences.holds(RETURNS, "one of three: a share that no double is", () -> {
            // top left, the box would cover rows 0 to 7, with three signs; below, rows 2 to 9, with two
            SightLegend x = new SightLegend();
            x.setWindow(0, 0, 10, 10, 5);
            x.set(2, 10);
            x.set(3, 8);
            x.addSign(0, 5, 1, 0, 0);
            x.addSign(0, 5, 4, 0, 0);
            x.addSign(0, 5, 5, 0, 0);
            Checks.equal("explained()", 1.0 / 3.0, x.explained());
        });
        Sentences.holds(RETURNS, "signs that are not shown don't count", () -> {
            SightLegend x = Promise10Edges.corners();
            x.addSign(0, 100, 50, 0, 0);
            x.addSign(0, 50, 100, 0, 0);
            Checks.equal("explained()", 0.75, x.explained());
        });
        Sentences.holds(NONE_SHOWN, "empty: no signs", () ->
                Checks.equal("explained()", 1.0, new SightLegend().explained()));
        Sentences.holds(NONE_SHOWN, "all beyond the window", () -> {
            SightLegend x = Promise02Edges.withSigns(40);
            x.setWindow(199, 199, 10, 10, 5);
            Checks.equal("explained()", 1.0, x.explained());
        });
        Sentences.holds(NONE_SHOWN, "all beyond the zoom", () -> {
            SightLegend x = new SightLegend();
            x.addSign(0, 50, 50, 0, 1);
            x.setWindow(0, 0, 100, 100, 0);
            Checks.equal("explained()", 1.0, x.explained());
        });
    }
}
