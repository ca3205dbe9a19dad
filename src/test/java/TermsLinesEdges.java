/** Terms: the lines of a kind. */
final class TermsLinesEdges {
    private static final String IN_SIGHT = "A kind is in sight if one of its signs is; a class of it likewise.";
    private static final String ITSELF =
            "at first each of its classes in sight is a line by itself, in ascending order.";
    private static final String AS_LONG =
            "As long as there are more lines than the most lines of a kind, two neighboring lines are joined";
    private static final String FEWEST = "those two whose signs in sight are the fewest together";
    private static final String FIRST_TWO = "of several the first two";
    private static final String RANGE = "(A line is a range of classes, from its first to its last one.)";

    private TermsLinesEdges() {
    }

    /** Kind 11 with the limits 10 to 50, and so many signs of its classes 0 to 5. */
    private static SightLegend classes(int most, int... counts) {
        SightLegend x = Promise09Edges.full();
        x.set(0, most);
        for (int number = counts.length - 1; number >= 0; number--) {
            for (int i = 0; i < counts[number]; i++) {
                x.addSign(11, 50, 50, 10 * number + 5, 0);
            }
        }
        return x;
    }

    /** First class, last class and signs of each line. */
    private static void ranges(SightLegend x, int... want) {
        Checks.equal("lines()", want.length / 3, x.lines());
        for (int line = 0; line < want.length / 3; line++) {
            Checks.line(x, line, 0, 11, -1, want[3 * line], want[3 * line + 1], want[3 * line + 2], 0, line);
        }
    }

    static void tests() {
        Sentences.of("Terms");
        Sentences.holds(IN_SIGHT, "none of its signs", () -> {
            SightLegend x = classes(6, 1);
            x.moveSign(0, 100, 50);
            ranges(x);
        });
        Sentences.holds(IN_SIGHT, "one of its signs", () -> {
            SightLegend x = classes(6, 3);
            x.moveSign(0, 100, 50);
            x.moveSign(1, 100, 50);
            ranges(x, 0, 0, 1);
        });
        Sentences.holds(IN_SIGHT, "a class of which none is", () -> {
            SightLegend x = classes(6, 1, 1, 1);
            x.moveSign(1, 100, 50);
            ranges(x, 0, 0, 1, 2, 2, 1);
        });
        Sentences.holds(ITSELF, "one class", () -> ranges(classes(6, 0, 0, 0, 0, 0, 2), 5, 5, 2));
        Sentences.holds(ITSELF, "all six, added in descending order", () ->
                ranges(classes(6, 1, 2, 3, 4, 5, 6), 0, 0, 1, 1, 1, 2, 2, 2, 3, 3, 3, 4, 4, 4, 5, 5, 5, 6));
        Sentences.holds(ITSELF, "the first and the last", () ->
                ranges(classes(6, 1, 0, 0, 0, 0, 1), 0, 0, 1, 5, 5, 1));
        asLong();
        fewest();
        Sentences.holds(RANGE, "of one class, its first is its last", () -> ranges(classes(1, 0, 0, 7), 2, 2, 7));
        Sentences.holds(RANGE, "of classes that are not in sight between", () ->
                ranges(classes(1, 0, 1, 0, 0, 1), 1, 4, 2));
    }

    private static void asLong() {
        Sentences.holds(AS_LONG, "as many as the most: none is joined", () -> {
            ranges(classes(3, 1, 1, 1), 0, 0, 1, 1, 1, 1, 2, 2, 1);
            ranges(classes(1, 0, 4), 1, 1, 4);
        });
        Sentences.holds(AS_LONG, "one more than the most: two are joined", () ->
                ranges(classes(3, 1, 1, 2, 2), 0, 1, 2, 2, 2, 2, 3, 3, 2));
        Sentences.holds(AS_LONG, "the smallest most, 1: all are joined", () ->
                ranges(classes(1, 1, 2, 3, 4, 5, 6), 0, 5, 21));
        Sentences.holds(AS_LONG, "the largest most, 6: none can be joined", () ->
                Checks.equal("lines()", 6, classes(6, 1, 1, 1, 1, 1, 1).lines()));
        Sentences.holds(AS_LONG, "each kind by itself", () -> {
            SightLegend x = classes(2, 1, 1, 1);
            x.addSign(0, 50, 50, 0, 0);
            x.addSign(1, 50, 50, 0, 0);
            Checks.equal("lines()", 4, x.lines());
        });
        Sentences.holds(AS_LONG, "lines that are joined already are joined again", () ->
                ranges(classes(2, 1, 1, 1, 9), 0, 2, 3, 3, 3, 9));
    }

    private static void fewest() {
        Sentences.holds(FEWEST, "the first two", () -> ranges(classes(2, 1, 2, 3), 0, 1, 3, 2, 2, 3));
        Sentences.holds(FEWEST, "the last two", () -> ranges(classes(2, 3, 2, 1), 0, 0, 3, 1, 2, 3));
        Sentences.holds(FEWEST, "two in the middle", () ->
                ranges(classes(3, 5, 1, 1, 5), 0, 0, 5, 1, 2, 2, 3, 3, 5));
        Sentences.holds(FEWEST, "neighbors alone: not the two smallest lines", () ->
                ranges(classes(2, 1, 9, 2), 0, 1, 10, 2, 2, 2));
        Sentences.holds(FEWEST, "one sign decides", () ->
                ranges(classes(3, 2, 2, 1, 2), 0, 0, 2, 1, 2, 3, 3, 3, 2));
        Sentences.holds(FEWEST, "signs that are not in sight don't count", () -> {
            SightLegend x = classes(2, 4, 2, 3);
            ranges(x, 0, 0, 4, 1, 2, 5);
            // of class 0, whose signs were added last, two go out of sight
            x.moveSign(8, 100, 50);
            x.moveSign(7, 100, 50);
            ranges(x, 0, 1, 4, 2, 2, 3);
        });
        Sentences.holds(FIRST_TWO, "of two pairs", () -> ranges(classes(2, 1, 1, 1), 0, 1, 2, 2, 2, 1));
        Sentences.holds(FIRST_TWO, "of all pairs of six lines, again and again", () -> {
            ranges(classes(5, 1, 1, 1, 1, 1, 1), 0, 1, 2, 2, 2, 1, 3, 3, 1, 4, 4, 1, 5, 5, 1);
            ranges(classes(4, 1, 1, 1, 1, 1, 1), 0, 1, 2, 2, 3, 2, 4, 4, 1, 5, 5, 1);
            ranges(classes(3, 1, 1, 1, 1, 1, 1), 0, 1, 2, 2, 3, 2, 4, 5, 2);
            ranges(classes(2, 1, 1, 1, 1, 1, 1), 0, 3, 4, 4, 5, 2);
        });
        Sentences.holds(FIRST_TWO, "with more signs, of which the first are not the largest", () ->
                ranges(classes(3, 3, 1, 2, 1), 0, 0, 3, 1, 2, 3, 3, 3, 1));
    }
}
