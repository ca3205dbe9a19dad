/** Terms: the blocks of the legend. */
final class TermsBlocksEdges {
    private static final String BLOCKS = "each group that has a kind in sight is a block, "
            + "and each kind in sight without a group is one.";
    private static final String ORDER =
            "Blocks are ordered by ascending ranks of their kinds in sight with the lowest rank";
    private static final String TIES = "equal ranks by the number of that kind "
            + "(of several kinds with this rank in the block the lowest one).";
    private static final String JOINED = "A block of a group with the way 1 in which at least two kinds are in "
            + "sight, and all kinds of the group are, is a single joined line.";
    private static final String HEADING = "Another block of a group with at least two kinds in sight has a heading "
            + "line and then the lines of its kinds in sight, in ascending order of ranks, equal ranks by numbers.";
    private static final String OTHER = "Any other block has the lines of its kind.";
    private static final int FREE = SightLegend.NONE;
    /** In the answers wanted a heading is this number and its group, a joined line likewise. */
    private static final int A_HEADING = 100;
    private static final int A_JOINED = 200;

    private TermsBlocksEdges() {
    }

    /** A map of kinds, each told by its number, its rank and its group, with one sign of each. */
    private static SightLegend map(int... kinds) {
        SightLegend x = new SightLegend();
        x.set(2, 1);
        x.set(3, 1);
        for (int i = 0; i < kinds.length; i += 3) {
            x.setKind(kinds[i], kinds[i + 1], kinds[i + 2]);
            x.addSign(kinds[i], 50, 50, 0, 0);
        }
        return x;
    }

    /** The sign of this number goes out of sight. */
    private static SightLegend hide(SightLegend x, int sign) {
        x.moveSign(sign, 100, 50);
        return x;
    }

    private static SightLegend way(SightLegend x, int group) {
        x.setWay(group, 1);
        return x;
    }

    private static void lines(SightLegend x, int... want) {
        Checks.equal("lines()", want.length, x.lines());
        for (int line = 0; line < want.length; line++) {
            int type = want[line] / 100;
            Checks.equal("line(" + line + ", 0)", type, x.line(line, 0));
            Checks.equal("line(" + line + "), its kind or group", want[line] % 100, x.line(line, type == 0 ? 1 : 2));
        }
    }

    static void tests() {
        Sentences.of("Terms");
        Sentences.holds(BLOCKS, "empty: a group without a kind in sight is none", () ->
                lines(hide(map(0, 0, 2, 5, 5, FREE), 0), 5));
        Sentences.holds(BLOCKS, "a group of which one kind is in sight", () ->
                lines(hide(map(0, 0, 2, 1, 1, 2, 5, 5, FREE), 0), 1, 5));
        Sentences.holds(BLOCKS, "the kinds of a group stand together", () ->
                lines(map(2, 2, 1, 5, 5, FREE, 9, 9, 1), A_HEADING + 1, 2, 9, 5));
        Sentences.holds(BLOCKS, "kinds without a group don't", () ->
                lines(map(2, 2, FREE, 5, 5, FREE, 9, 9, FREE), 2, 5, 9));
        Sentences.holds(BLOCKS, "all five groups", () ->
                lines(map(0, 50, 4, 1, 40, 3, 2, 30, 2, 3, 20, 1, 4, 10, 0), 4, 3, 2, 1, 0));
        order();
        ties();
        joined();
        heading();
        Sentences.holds(OTHER, "a kind without a group", () -> {
            SightLegend x = map(3, 3, FREE);
            x.limit(3, 7);
            x.addSign(3, 50, 50, 7, 0);
            lines(x, 3, 3);
        });
        Sentences.holds(OTHER, "a group of a single kind, whatever its way is", () -> {
            SightLegend x = map(3, 3, 2);
            x.limit(3, 7);
            x.addSign(3, 50, 50, 7, 0);
            lines(x, 3, 3);
            lines(way(x, 2), 3, 3);
        });
        Sentences.holds(OTHER, "a group of which a single kind is in sight, whatever its way is", () -> {
            SightLegend x = hide(map(3, 3, 2, 4, 4, 2), 0);
            lines(x, 4);
            lines(way(x, 2), 4);
        });
    }

    private static void order() {
        Sentences.holds(ORDER, "the smallest and the largest rank", () -> lines(map(0, 99, FREE, 11, 0, FREE), 11, 0));
        Sentences.holds(ORDER, "the lowest rank of a group, not its first kind's", () ->
                lines(map(3, 50, 1, 4, 1, 1, 5, 20, FREE), A_HEADING + 1, 4, 3, 5));
        Sentences.holds(ORDER, "nor its last kind's", () ->
                lines(map(3, 1, 1, 4, 50, 1, 5, 20, FREE), A_HEADING + 1, 3, 4, 5));
        Sentences.holds(ORDER, "kinds that are not in sight don't count", () ->
                lines(hide(map(3, 0, 1, 4, 50, 1, 5, 20, FREE), 0), 5, 4));
        Sentences.holds(ORDER, "of two groups and a kind between", () ->
                lines(map(1, 30, 0, 2, 31, 0, 3, 10, 4, 4, 11, 4, 5, 20, FREE),
                        A_HEADING + 4, 3, 4, 5, A_HEADING, 1, 2));
    }

    private static void ties() {
        Sentences.holds(TIES, "kinds without a group, all of one rank", () ->
                lines(map(11, 5, FREE, 3, 5, FREE, 0, 5, FREE), 0, 3, 11));
        Sentences.holds(TIES, "the kind of the lowest rank, not a lower one of the group", () ->
                lines(map(11, 5, 1, 1, 90, 1, 6, 5, FREE), 6, A_HEADING + 1, 11, 1));
        Sentences.holds(TIES, "of several with this rank the lowest one", () ->
                lines(map(11, 5, 1, 1, 5, 1, 6, 5, FREE), A_HEADING + 1, 1, 11, 6));
        Sentences.holds(TIES, "of those in sight", () ->
                lines(hide(map(1, 5, 1, 11, 5, 1, 6, 5, FREE), 0), 6, 11));
        Sentences.holds(TIES, "two groups: not by their own numbers", () ->
                lines(map(8, 3, 0, 9, 4, 0, 7, 3, 1, 10, 4, 1), A_HEADING + 1, 7, 10, A_HEADING, 8, 9));
        Sentences.holds(TIES, "a joined line likewise", () ->
                lines(way(map(8, 3, 0, 9, 3, 0, 7, 3, FREE, 10, 3, FREE), 0), 7, A_JOINED, 10));
    }

    private static void joined() {
        Sentences.holds(JOINED, "two kinds of two", () -> {
            SightLegend x = way(map(3, 3, 2, 4, 4, 2), 2);
            lines(x, A_JOINED + 2);
            Checks.line(x, 0, 2, -1, 2, -1, -1, 2, 0, 0);
        });
        Sentences.holds(JOINED, "not with the way 0", () ->
                lines(map(3, 3, 2, 4, 4, 2), A_HEADING + 2, 3, 4));
        Sentences.holds(JOINED, "not with the way of another group", () ->
                lines(way(map(3, 3, 2, 4, 4, 2), 3), A_HEADING + 2, 3, 4));
        Sentences.holds(JOINED, "one kind of two: too few", () -> lines(hide(way(map(3, 3, 2, 4, 4, 2), 2), 1), 3));
        Sentences.holds(JOINED, "one kind of one: too few", () -> lines(way(map(3, 3, 2), 2), 3));
        Sentences.holds(JOINED, "two kinds of three: not all", () ->
                lines(hide(way(map(3, 3, 2, 4, 4, 2, 5, 5, 2), 2), 2), A_HEADING + 2, 3, 4));
        Sentences.holds(JOINED, "a kind of the group that has no sign at all: not all", () -> {
            SightLegend x = way(map(3, 3, 2, 4, 4, 2), 2);
            x.setKind(0, 0, 2);
            lines(x, A_HEADING + 2, 3, 4);
            x.setKind(0, 0, 1);
            lines(x, A_JOINED + 2);
        });
        Sentences.holds(JOINED, "three kinds of three", () ->
                lines(way(map(3, 3, 2, 4, 4, 2, 5, 5, 2), 2), A_JOINED + 2));
        Sentences.holds(JOINED, "all twelve kinds, with many lines each", () -> {
            SightLegend x = new SightLegend();
            for (int kind = 0; kind < 12; kind++) {
                x.setKind(kind, kind, 4);
                x.limit(kind, 5);
                x.addSign(kind, 50, 50, 4, 0);
                x.addSign(kind, 50, 50, 5, 0);
            }
            x.setWay(4, 1);
            lines(x, A_JOINED + 4);
            Checks.line(x, 0, 2, -1, 4, -1, -1, 24);
        });
    }

    private static void heading() {
        Sentences.holds(HEADING, "two kinds in sight", () -> {
            SightLegend x = map(3, 3, 2, 4, 4, 2);
            Checks.line(x, 0, 1, -1, 2, -1, -1, 0, 0, 0);
            Checks.line(x, 1, 0, 3, 2, 0, 0, 1, 0, 1);
            Checks.line(x, 2, 0, 4, 2, 0, 0, 1, 0, 2);
        });
        Sentences.holds(HEADING, "one kind in sight: none", () -> lines(hide(map(3, 3, 2, 4, 4, 2), 1), 3));
        Sentences.holds(HEADING, "ascending ranks, equal ones by numbers", () ->
                lines(map(2, 9, 0, 5, 1, 0, 7, 1, 0, 0, 99, 0), A_HEADING, 5, 7, 2, 0));
        Sentences.holds(HEADING, "equal ranks of kinds that were set in another order", () ->
                lines(map(11, 7, 0, 6, 7, 0, 1, 7, 0), A_HEADING, 1, 6, 11));
        Sentences.holds(HEADING, "a kind with several lines has them together", () -> {
            SightLegend x = map(3, 9, 2, 4, 4, 2);
            x.limit(4, 7);
            x.addSign(4, 50, 50, 7, 0);
            lines(x, A_HEADING + 2, 4, 4, 3);
        });
        Sentences.holds(HEADING, "one for each group", () ->
                lines(map(0, 0, 0, 1, 1, 1, 2, 2, 0, 3, 3, 1), A_HEADING, 0, 2, A_HEADING + 1, 1, 3));
    }
}
