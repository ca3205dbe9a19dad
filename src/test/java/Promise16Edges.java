/** Promise 16: rounds. */
final class Promise16Edges {
    private static final String WHAT = "`what`: 0 their number, "
            + "1 1 if the lines of the last round are the same as those of the one before, otherwise 0, "
            + "2 the shown signs that the box of the last round covers and that were in sight in it";
    private static final String NUMBER = "0 their number";
    private static final String STAYS =
            "1 1 if the lines of the last round are the same as those of the one before, otherwise 0";
    private static final String COVERED =
            "2 the shown signs that the box of the last round covers and that were in sight in it";
    private static final String RETURNS = "Returns that value.";
    private static final String NO_WHAT = "Throws `IllegalArgumentException` if what is out of range";

    private Promise16Edges() {
    }

    static void tests() {
        Sentences.of("Promise 16");
        Sentences.range(WHAT, 0, 2, IllegalArgumentException.class, Promise10Edges::corners, SightLegend::rounds);
        Sentences.holds(NUMBER, "2 at least", () -> {
            Checks.equal("with lines", 2, Promise10Edges.corners().rounds(0));
            Checks.equal("with none covered", 2, Promise02Edges.withSigns(40).rounds(0));
        });
        Sentences.holds(NUMBER, "8 at most", () -> {
            Checks.equal("that don't stay", 8, Promise10Edges.allCovered(1).rounds(0));
            Checks.equal("that stay just then", 8, TermsRoundsEdges.staysInRoundEight().rounds(0));
        });
        Sentences.holds(STAYS, "1 behind fewer than 8 rounds", () -> {
            Checks.equal("2 rounds", 1, Promise10Edges.corners().rounds(1));
            Checks.equal("3 rounds", 1, TermsRoundsEdges.fiveLinesThenFour().rounds(1));
        });
        Sentences.holds(STAYS, "1 in round 8", () ->
                Checks.equal("rounds(1)", 1, TermsRoundsEdges.staysInRoundEight().rounds(1)));
        Sentences.holds(STAYS, "0 in round 8", () ->
                Checks.equal("rounds(1)", 0, Promise10Edges.allCovered(1).rounds(1)));
        Sentences.holds(COVERED, "those that were in sight", () ->
                Checks.rounds(TermsRoundsEdges.coversOneInSight(), 8, 0, 1));
        Sentences.holds(COVERED, "covered, but not in sight", () -> {
            SightLegend x = Promise10Edges.corners();
            Checks.equal("box(5)", 1, x.box(5));
            Checks.equal("rounds(2)", 0, x.rounds(2));
        });
        Sentences.holds(COVERED, "0 without a box", () ->
                Checks.equal("rounds(2)", 0, Promise10Edges.allCovered(40).rounds(2)));
        Sentences.holds(RETURNS, "empty: two rounds of no lines", () -> {
            Checks.rounds(new SightLegend(), 2, 1, 0);
            SightLegend x = Promise10Edges.corners();
            x.setWindow(100, 100, 10, 10, 5);
            Checks.rounds(x, 2, 1, 0);
        });
        Sentences.holds(RETURNS, "of the map as it is then", () -> {
            SightLegend x = Promise10Edges.allCovered(1);
            Checks.rounds(x, 8, 0, 0);
            x.set(3, 5);
            x.moveSign(0, 5, 5);
            Checks.rounds(x, 2, 1, 0);
            x.undo();
            x.undo();
            Checks.rounds(x, 8, 0, 0);
        });
        Sentences.holds(NO_WHAT, "refused", () -> {
            SightLegend x = Promise10Edges.corners();
            Checks.refusedAll(x, IllegalArgumentException.class, x::rounds, -1, 3, 4);
        });
    }
}
