/** Terms: the box in its corner. */
final class TermsBoxEdges {
    private static final String CORNER = "it stands in a corner of the window: "
            + "0 top left, 1 top right, 2 bottom left, 3 bottom right";
    private static final String FEWEST = "in the one where it covers the fewest shown signs";
    private static final String LIE = "(those whose column and row lie in it)";
    private static final String LOWEST = "of several the lowest one.";
    private static final String NO_BOX = "Without lines there is no box.";
    /** Left, top, right and bottom of the box in each corner. */
    private static final int[][] PLACES = {
        {10, 20, 14, 22}, {35, 20, 39, 22}, {10, 57, 14, 59}, {35, 57, 39, 59},
    };

    private TermsBoxEdges() {
    }

    /**
     * A window of 30 to 40 with a box of 5 to 3, a sign in the middle, and one in each of these
     * corners of the window; all of one kind.
     */
    static SightLegend blocked(int... corners) {
        SightLegend x = new SightLegend();
        x.setWindow(10, 20, 30, 40, 5);
        x.set(2, 5);
        x.set(3, 3);
        x.addSign(0, 25, 40, 0, 0);
        for (int corner : corners) {
            block(x, corner);
        }
        return x;
    }

    private static void block(SightLegend x, int corner) {
        x.addSign(0, corner % 2 == 0 ? 10 : 39, corner < 2 ? 20 : 59, 0, 0);
    }

    static void tests() {
        Sentences.of("Terms");
        for (int i = 0; i < 4; i++) {
            int corner = i;
            Sentences.holds(CORNER, "corner " + corner, () -> {
                int[] place = PLACES[corner];
                Checks.box(before(corner), corner, place[0], place[1], 5, 3, 0);
            });
            Sentences.holds(LIE, "the first and the last columns and rows, corner " + corner, () -> within(corner));
            Sentences.holds(LIE, "one column or row beyond, corner " + corner, () -> beyond(corner));
        }
        fewest();
        Sentences.holds(NO_BOX, "empty: no signs", () -> Checks.box(new SightLegend(), -1, -1, -1, -1, -1, -1));
        Sentences.holds(NO_BOX, "no shown signs", () -> {
            SightLegend x = blocked(0);
            x.setWindow(100, 100, 30, 40, 5);
            Checks.box(x, -1, -1, -1, -1, -1, -1);
        });
        Sentences.holds(NO_BOX, "no line in the last round: none is covered, and no corner is left", () -> {
            SightLegend x = Promise10Edges.allCovered(7);
            Checks.box(x, -1, -1, -1, -1, -1, -1);
            Checks.equal("rounds(2)", 0, x.rounds(2));
        });
        Sentences.holds(NO_BOX, "a round without a box hides no sign: the next one has lines again", () ->
                Checks.rounds(Promise10Edges.allCovered(7), 8, 0, 0));
        Sentences.holds(NO_BOX, "of the lines that are left there is one again", () -> {
            // both lines' box covers the whole window, so round 8 has no line; one line's box is half as high
            SightLegend x = new SightLegend();
            x.setWindow(3, 4, 10, 10, 5);
            x.set(2, 10);
            x.set(3, 5);
            x.addSign(0, 5, 5, 0, 0);
            x.addSign(1, 5, 12, 0, 0);
            Checks.equal("box(0)", -1, x.box(0));
            x.removeSign(0);
            Checks.box(x, 0, 3, 4, 10, 5, 0);
        });
    }

    /** All corners before this one have a sign. */
    private static SightLegend before(int corner) {
        SightLegend x = blocked();
        for (int i = 0; i < corner; i++) {
            block(x, i);
        }
        return x;
    }

    /** A sign in the corner's box drives it to the next corner; from the last one back to the first. */
    private static void within(int corner) {
        int[] place = PLACES[corner];
        int[][] cells = {
            {place[0], place[1]}, {place[2], place[1]}, {place[0], place[3]}, {place[2], place[3]},
        };
        for (int[] cell : cells) {
            SightLegend x = before(corner);
            x.addSign(0, cell[0], cell[1], 0, 0);
            Checks.equal("with a sign at " + cell[0] + ", " + cell[1], (corner + 1) % 4, x.box(0));
        }
    }

    private static void beyond(int corner) {
        int[] place = PLACES[corner];
        int[][] cells = {
            {place[0] - 1, place[1]}, {place[2] + 1, place[1]}, {place[0] - 1, place[3]}, {place[2] + 1, place[3]},
            {place[0], place[1] - 1}, {place[0], place[3] + 1}, {place[2], place[1] - 1}, {place[2], place[3] + 1},
        };
        for (int[] cell : cells) {
            SightLegend x = before(corner);
            x.addSign(0, cell[0], cell[1], 0, 0);
            Checks.equal("with a sign at " + cell[0] + ", " + cell[1], corner, x.box(0));
            Checks.equal("covered", 0, x.box(5));
        }
    }

    private static void fewest() {
        Sentences.holds(FEWEST, "none is fewer than one, in each corner", () -> {
            Checks.equal("box(0)", 0, blocked(1, 2, 3).box(0));
            Checks.equal("box(0)", 1, blocked(0, 2, 3).box(0));
            Checks.equal("box(0)", 2, blocked(0, 1, 3).box(0));
            Checks.equal("box(0)", 3, blocked(0, 1, 2).box(0));
        });
        Sentences.holds(FEWEST, "one is fewer than two", () -> {
            Checks.equal("box(0)", 3, blocked(0, 0, 1, 1, 2, 2, 3).box(0));
            Checks.equal("box(5)", 1, blocked(0, 0, 1, 1, 2, 2, 3).box(5));
            Checks.equal("box(0)", 1, blocked(0, 0, 0, 1, 2, 2, 3, 3).box(0));
        });
        Sentences.holds(FEWEST, "those beyond the zoom don't count", () -> {
            SightLegend x = blocked();
            x.addSign(0, 10, 20, 0, 5);
            Checks.equal("shown", 1, x.box(0));
            x.setWindow(10, 20, 30, 40, 4);
            Checks.equal("not shown", 0, x.box(0));
        });
        Sentences.holds(FEWEST, "those that were not in sight count", () -> {
            // in round 2 the sign of corner 0 is not in sight; the box stands there all the same
            SightLegend x = blocked(0, 1, 2, 3);
            Checks.rounds(x, 2, 1, 0);
            Checks.box(x, 0, 10, 20, 5, 3, 1);
        });
        Sentences.holds(LOWEST, "of all four", () -> {
            Checks.equal("with none", 0, blocked().box(0));
            Checks.equal("with one each", 0, blocked(3, 2, 1, 0).box(0));
            Checks.equal("with two each", 0, blocked(0, 1, 2, 3, 0, 1, 2, 3).box(0));
        });
        Sentences.holds(LOWEST, "of three and of two", () -> {
            Checks.equal("of 1, 2 and 3", 1, blocked(0).box(0));
            Checks.equal("of 2 and 3", 2, blocked(0, 1).box(0));
            Checks.equal("of 1 and 3", 1, blocked(0, 2).box(0));
            Checks.equal("of 0 and 3", 0, blocked(1, 2).box(0));
        });
    }
}
