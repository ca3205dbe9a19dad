/** Terms: the columns, and the size of the box. */
final class TermsColumnsEdges {
    private static final String H = "let t be the number of all lines, c the number of legend columns, "
            + "and h = (t + c - 1) / c.";
    private static final String DOWN = "The lines go down the columns one after the other, "
            + "each to the next place of the present column, from 0 on.";
    private static final String BEGINS = "But if the present column is not the last one, "
            + "a line begins the next column if h lines are in the present one";
    private static final String HEADING = "and a heading also if h - 1 lines, and at least 1, are in it.";
    private static final String LAST = "(The last column can have more than h lines.)";
    private static final String WIDE =
            "The box is (width of a legend column) * (number of columns that have a line) wide";
    private static final String HIGH = "(height of a line) * (most lines in a column) high";
    private static final String AT_MOST = "but at most as wide and as high as the window.";

    private TermsColumnsEdges() {
    }

    /** So many kinds with one sign each, of which these are in groups: a heading before each two. */
    private static SightLegend map(int columns, int kinds, int... firstOfTwo) {
        SightLegend x = new SightLegend();
        x.set(1, columns);
        x.set(2, 2);
        x.set(3, 1);
        for (int kind = 0; kind < kinds; kind++) {
            x.addSign(kind, 50, 50, 0, 0);
        }
        for (int group = 0; group < firstOfTwo.length; group++) {
            x.setKind(firstOfTwo[group], firstOfTwo[group], group);
            x.setKind(firstOfTwo[group] + 1, firstOfTwo[group] + 1, group);
        }
        return x;
    }

    static void tests() {
        Sentences.of("Terms");
        Sentences.holds(H, "empty: no lines", () -> {
            for (int columns = 1; columns <= 4; columns++) {
                Checks.places(map(columns, 0));
                Checks.box(map(columns, 0), -1, -1, -1, -1, -1, -1);
            }
        });
        Sentences.holds(H, "one line", () -> {
            for (int columns = 1; columns <= 4; columns++) {
                Checks.places(map(columns, 1), 0, 0);
            }
        });
        Sentences.holds(H, "as many lines as columns", () -> Checks.places(map(4, 4), 0, 0, 1, 0, 2, 0, 3, 0));
        Sentences.holds(H, "a line more than columns", () ->
                Checks.places(map(4, 5), 0, 0, 0, 1, 1, 0, 1, 1, 2, 0));
        Sentences.holds(H, "a line less than columns", () -> Checks.places(map(4, 3), 0, 0, 1, 0, 2, 0));
        Sentences.holds(H, "twice as many lines as columns", () ->
                Checks.places(map(3, 6), 0, 0, 0, 1, 1, 0, 1, 1, 2, 0, 2, 1));
        Sentences.holds(DOWN, "from 0 on, in a single column", () ->
                Checks.places(map(1, 6), 0, 0, 0, 1, 0, 2, 0, 3, 0, 4, 0, 5));
        Sentences.holds(DOWN, "from 0 on, in each column", () ->
                Checks.places(map(2, 6), 0, 0, 0, 1, 0, 2, 1, 0, 1, 1, 1, 2));
        Sentences.holds(BEGINS, "h lines, not one less", () -> Checks.places(map(2, 3), 0, 0, 0, 1, 1, 0));
        Sentences.holds(BEGINS, "the last column that has a line is not the last column", () ->
                Checks.places(map(4, 9), 0, 0, 0, 1, 0, 2, 1, 0, 1, 1, 1, 2, 2, 0, 2, 1, 2, 2));
        heading();
        last();
        size();
    }

    private static void heading() {
        Sentences.holds(HEADING, "h - 1 lines: it begins the next column", () ->
                Checks.places(map(3, 3, 1), 0, 0, 1, 0, 1, 1, 2, 0));
        Sentences.holds(HEADING, "h - 1 = 2 lines", () ->
                Checks.places(map(2, 5, 2), 0, 0, 0, 1, 1, 0, 1, 1, 1, 2, 1, 3));
        Sentences.holds(HEADING, "h - 2 lines: it stays", () ->
                Checks.places(map(2, 5, 1), 0, 0, 0, 1, 0, 2, 1, 0, 1, 1, 1, 2));
        Sentences.holds(HEADING, "h lines: it begins the next column as any line", () ->
                Checks.places(map(2, 5, 3), 0, 0, 0, 1, 0, 2, 1, 0, 1, 1, 1, 2));
        Sentences.holds(HEADING, "h - 1 = 0 lines, less than 1: it stays in the first column", () -> {
            Checks.places(map(4, 2, 0), 0, 0, 1, 0, 2, 0);
            Checks.places(map(3, 2, 0), 0, 0, 1, 0, 2, 0);
        });
        Sentences.holds(HEADING, "h = 1 and 1 line: it begins the next column as any line", () ->
                Checks.places(map(4, 3, 1), 0, 0, 1, 0, 2, 0, 3, 0));
        Sentences.holds(HEADING, "h - 1 lines in the last column: it stays", () ->
                Checks.places(map(3, 9, 3, 5, 7), 0, 0, 0, 1, 0, 2, 1, 0, 1, 1, 1, 2,
                        2, 0, 2, 1, 2, 2, 2, 3, 2, 4, 2, 5));
        Sentences.holds(HEADING, "h - 1 lines: another line and a joined line stay", () -> {
            SightLegend x = map(2, 4, 1);
            x.setWay(0, 1);
            Checks.line(x, 1, 2, -1, 0, -1, -1, 2);
            Checks.places(x, 0, 0, 0, 1, 1, 0);
        });
    }

    private static void last() {
        Sentences.holds(LAST, "one more than h", () -> Checks.places(map(2, 3, 1), 0, 0, 1, 0, 1, 1, 1, 2));
        Sentences.holds(LAST, "two more than h", () -> Checks.equal("the last place, h is 4", 5,
                map(3, 9, 3, 5, 7).line(11, 7)));
    }

    private static void size() {
        Sentences.holds(WIDE, "columns without a line don't count", () -> {
            Checks.equal("1 of 4", 2, map(4, 1).box(3));
            Checks.equal("3 of 4", 6, map(4, 5).box(3));
            Checks.equal("4 of 4", 8, map(4, 4).box(3));
            Checks.equal("1 of 1", 2, map(1, 12).box(3));
        });
        Sentences.holds(WIDE, "the smallest and the largest width", () -> {
            SightLegend x = map(1, 1);
            x.set(2, 1);
            Checks.equal("box(3)", 1, x.box(3));
            x.set(2, 60);
            Checks.equal("box(3)", 60, x.box(3));
        });
        Sentences.holds(HIGH, "the first column has the most", () -> {
            Checks.equal("3 and 2", 3, map(2, 5).box(4));
            Checks.equal("12", 12, map(1, 12).box(4));
        });
        Sentences.holds(HIGH, "the last column has the most", () -> Checks.equal("1 and 3", 3, map(2, 3, 1).box(4)));
        Sentences.holds(HIGH, "the smallest and the largest height", () -> {
            SightLegend x = map(1, 2);
            Checks.equal("box(4)", 2, x.box(4));
            x.set(3, 20);
            Checks.equal("box(4)", 40, x.box(4));
        });
        Sentences.holds(AT_MOST, "just as wide, and one column wider", () -> {
            for (int width = 9; width <= 11; width++) {
                SightLegend x = new SightLegend();
                x.setWindow(0, 0, 10, 10, 5);
                x.set(2, width);
                x.addSign(0, 5, 9, 0, 0);
                Checks.box(x, 0, 0, 0, Math.min(width, 10), 5, 0);
            }
        });
        Sentences.holds(AT_MOST, "just as high, and one row higher", () -> {
            for (int height = 9; height <= 11; height++) {
                SightLegend x = new SightLegend();
                x.setWindow(0, 0, 10, 10, 5);
                x.set(2, 5);
                x.set(3, height);
                x.addSign(0, 9, 5, 0, 0);
                Checks.box(x, 0, 0, 0, 5, Math.min(height, 10), 0);
            }
        });
        Sentences.holds(AT_MOST, "in a long window not as wide as it is high, and the other way round", () -> {
            SightLegend x = new SightLegend();
            x.setWindow(0, 0, 10, 200, 5);
            x.set(2, 60);
            x.addSign(0, 5, 100, 0, 0);
            Checks.box(x, 0, 0, 0, 10, 5, 0);
            x.setWindow(0, 90, 200, 11, 5);
            x.set(3, 20);
            Checks.box(x, 1, 140, 90, 60, 11, 0);
        });
    }
}
