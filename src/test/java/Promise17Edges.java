/** Promise 17: firstLines. */
final class Promise17Edges {
    private static final String TELLS = "Returns how many lines the legend of round 1 has.";
    private static final String RETURNS = "Returns their number.";

    private Promise17Edges() {
    }

    static void tests() {
        Sentences.of("Promise 17");
        Sentences.holds(RETURNS, "empty: no signs", () ->
                Checks.equal("firstLines()", 0, new SightLegend().firstLines()));
        Sentences.holds(RETURNS, "no sign shown", () -> {
            SightLegend x = Promise10Edges.corners();
            x.setWindow(100, 100, 10, 10, 5);
            Checks.equal("firstLines()", 0, x.firstLines());
        });
        Sentences.holds(TELLS, "more than the last round has", () -> {
            Checks.equal("of five to four", 5, TermsRoundsEdges.fiveLinesThenFour().firstLines());
            Checks.equal("of twelve to none", 12, Promise10Edges.allCovered(40).firstLines());
            Checks.equal("of seven to four", 7, TermsRoundsEdges.staysInRoundEight().firstLines());
        });
        Sentences.holds(TELLS, "as many as the last round has", () ->
                Checks.equal("firstLines()", 1, Promise10Edges.corners().firstLines()));
        Sentences.holds(RETURNS, "the most", () ->
                Checks.equal("firstLines()", 45, Promise13Edges.mostLines().firstLines()));
        Sentences.holds(TELLS, "the rounds of the map before a change don't count", () -> {
            SightLegend x = TermsRoundsEdges.fiveLinesThenFour();
            Checks.equal("lines()", 4, x.lines());
            x.set(0, 2);
            Checks.equal("firstLines()", 5, x.firstLines());
            x.undo();
            Checks.equal("firstLines() behind undo", 5, x.firstLines());
        });
    }
}
