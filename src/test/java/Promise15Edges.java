/** Promise 15: box. */
final class Promise15Edges {
    private static final String WHAT = "`what`: 0 its corner, 1 its left column, 2 its top row, 3 its width, "
            + "4 its height, 5 the shown signs that it covers";
    private static final String CORNER = "0 its corner, 1 its left column, 2 its top row";
    private static final String SIZE = "3 its width, 4 its height";
    private static final String COVERED = "5 the shown signs that it covers";
    private static final String RETURNS = "Returns that value; NONE without a box.";
    private static final String NO_WHAT = "Throws `IllegalArgumentException` if what is out of range";

    private Promise15Edges() {
    }

    static void tests() {
        Sentences.of("Promise 15");
        Sentences.range(WHAT, 0, 5, IllegalArgumentException.class, Promise10Edges::corners, SightLegend::box);
        Sentences.holds(CORNER, "each corner", () -> {
            Checks.box(TermsBoxEdges.blocked(), 0, 10, 20, 5, 3, 0);
            Checks.box(TermsBoxEdges.blocked(0), 1, 35, 20, 5, 3, 0);
            Checks.box(TermsBoxEdges.blocked(0, 1), 2, 10, 57, 5, 3, 0);
            Checks.box(TermsBoxEdges.blocked(0, 1, 2), 3, 35, 57, 5, 3, 0);
        });
        Sentences.holds(CORNER, "in a window that reaches beyond the map", () -> {
            SightLegend x = new SightLegend();
            x.setWindow(199, 199, 200, 200, 5);
            x.addSign(0, 199, 199, 0, 0);
            Checks.box(x, 1, 379, 199, 20, 5, 0);
        });
        Sentences.holds(SIZE, "the smallest", () -> {
            SightLegend x = TermsBoxEdges.blocked();
            x.set(2, 1);
            x.set(3, 1);
            Checks.box(x, 0, 10, 20, 1, 1, 0);
        });
        Sentences.holds(SIZE, "as wide as the largest window", () -> {
            SightLegend x = Promise02Edges.withSigns(40);
            x.setWindow(0, 0, 200, 200, 5);
            x.set(1, 4);
            x.set(2, 50);
            x.set(3, 13);
            Checks.box(x, 0, 0, 0, 200, 39, 0);
        });
        covered();
        Sentences.holds(RETURNS, "empty: NONE of all, without signs", () ->
                Checks.box(new SightLegend(), -1, -1, -1, -1, -1, -1));
        Sentences.holds(RETURNS, "NONE of all, without shown signs", () -> {
            SightLegend x = Promise10Edges.corners();
            x.setWindow(100, 100, 10, 10, 5);
            Checks.box(x, -1, -1, -1, -1, -1, -1);
        });
        Sentences.holds(RETURNS, "NONE of all, when the last round has no line", () ->
                Checks.box(Promise10Edges.allCovered(2), -1, -1, -1, -1, -1, -1));
        Sentences.holds(RETURNS, "a box again behind undo", () -> {
            SightLegend x = Promise10Edges.corners();
            x.setWindow(100, 100, 10, 10, 5);
            Checks.equal("box(0)", -1, x.box(0));
            x.undo();
            Checks.box(x, 0, 0, 0, 20, 5, 1);
        });
        Sentences.holds(NO_WHAT, "refused, with a box", () -> {
            SightLegend x = Promise10Edges.corners();
            Checks.refusedAll(x, IllegalArgumentException.class, x::box, -1, 6, 7);
        });
        Sentences.holds(NO_WHAT, "refused, without a box", () -> {
            SightLegend x = new SightLegend();
            Checks.refusedAll(x, IllegalArgumentException.class, x::box, -1, 6, 7);
        });
    }

    private static void covered() {
        Sentences.holds(COVERED, "none", () -> Checks.equal("box(5)", 0, TermsBoxEdges.blocked(0, 1, 2).box(5)));
        Sentences.holds(COVERED, "those that are not in sight count", () -> {
            SightLegend x = TermsBoxEdges.blocked(0, 1, 2, 3);
            Checks.equal("box(5)", 1, x.box(5));
            Checks.equal("rounds(2)", 0, x.rounds(2));
        });
        Sentences.holds(COVERED, "those that are not shown don't count", () -> {
            SightLegend x = TermsBoxEdges.blocked(0, 1, 2, 3);
            x.addSign(0, 11, 21, 0, 5);
            Checks.equal("a second one in corner 0, so the box is in corner 1", 1, x.box(0));
            x.setWindow(10, 20, 30, 40, 4);
            Checks.box(x, 0, 10, 20, 5, 3, 1);
        });
        Sentences.holds(COVERED, "39 of a full map", () -> {
            SightLegend x = new SightLegend();
            x.setWindow(0, 0, 10, 10, 5);
            x.set(2, 9);
            x.set(3, 9);
            x.addSign(0, 0, 0, 0, 0);
            for (int i = 1; i < 40; i++) {
                x.addSign(0, 5, 5, 0, 0);
            }
            Checks.box(x, 1, 1, 0, 9, 9, 39);
        });
    }
}
