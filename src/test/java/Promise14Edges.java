/** Promise 14: line. */
final class Promise14Edges {
    private static final String LINE = "`line`: 0 for the first line, and so on, down the columns";
    private static final String TYPE = "0 what it is: 0 lines of a kind, 1 a heading, 2 a joined line";
    private static final String KIND = "1 its kind (NONE for 1 and 2)";
    private static final String GROUP =
            "2 its group (for lines of a kind the group of the kind, with a heading or without; NONE without one)";
    private static final String CLASSES =
            "3 its first class, 4 its last class (NONE for 3 and 4 of headings and joined lines)";
    private static final String SIGNS = "5 the explained signs that it stands for (0 for a heading)";
    private static final String PLACE = "6 its column, 7 its place in the column, from 0";
    private static final String RETURNS = "Returns that value.";
    private static final String NO_LINE = "Throws `IndexOutOfBoundsException` if there is no such line";
    private static final String NO_WHAT = "Throws `IllegalArgumentException` if what is out of range";

    private Promise14Edges() {
    }

    /**
     * Kind 1 without a group; a heading of group 2 with kinds 3 and 4; group 0, joined, of kinds 5
     * and 6; and of group 4 kind 7 alone in sight.
     */
    private static SightLegend sixLines() {
        SightLegend x = new SightLegend();
        x.setKind(3, 3, 2);
        x.setKind(4, 4, 2);
        x.setKind(5, 5, 0);
        x.setKind(6, 6, 0);
        x.setKind(7, 7, 4);
        x.setKind(8, 8, 4);
        x.setWay(0, 1);
        x.limit(4, 10);
        x.limit(4, 20);
        x.set(0, 1);
        for (int kind : new int[] {1, 3, 5, 6, 6, 7}) {
            x.addSign(kind, 50, 50, 0, 0);
        }
        x.addSign(4, 50, 50, 10, 0);
        x.addSign(4, 50, 50, 20, 0);
        return x;
    }

    private static void column(int what, int... want) {
        SightLegend x = sixLines();
        Checks.equal("lines()", want.length, x.lines());
        for (int line = 0; line < want.length; line++) {
            Checks.equal("line(" + line + ", " + what + ")", want[line], x.line(line, what));
        }
    }

    static void tests() {
        Sentences.of("Promise 14");
        Sentences.range(LINE, 0, 5, IndexOutOfBoundsException.class, Promise14Edges::sixLines,
                (x, a) -> x.line(a, 0));
        Sentences.range(TYPE, 0, 7, IllegalArgumentException.class, Promise14Edges::sixLines,
                (x, a) -> x.line(5, a));
        Sentences.holds(LINE, "down the columns", () -> {
            SightLegend x = sixLines();
            x.set(1, 3);
            Checks.places(x, 0, 0, 1, 0, 1, 1, 2, 0, 2, 1, 2, 2);
        });
        Sentences.holds(TYPE, "each of them", () -> column(0, 0, 1, 0, 0, 2, 0));
        Sentences.holds(KIND, "NONE for a heading and a joined line", () -> column(1, 1, -1, 3, 4, -1, 7));
        Sentences.holds(KIND, "the first and the last kind", () -> {
            SightLegend x = new SightLegend();
            x.addSign(0, 50, 50, 0, 0);
            x.addSign(11, 50, 50, 0, 0);
            Checks.equal("line(0, 1)", 0, x.line(0, 1));
            Checks.equal("line(1, 1)", 11, x.line(1, 1));
        });
        Sentences.holds(GROUP, "with a heading, without one, joined, NONE", () -> column(2, -1, 2, 2, 2, 0, 4));
        Sentences.holds(CLASSES, "the first ones", () -> column(3, 0, -1, 0, 1, -1, 0));
        Sentences.holds(CLASSES, "the last ones", () -> column(4, 0, -1, 0, 2, -1, 0));
        Sentences.holds(CLASSES, "0 to 5 at most", () -> {
            SightLegend x = Promise09Edges.full();
            x.set(0, 1);
            x.addSign(11, 50, 50, 0, 0);
            x.addSign(11, 50, 50, 9999, 0);
            Checks.line(x, 0, 0, 11, -1, 0, 5, 2);
        });
        Sentences.holds(SIGNS, "0 for a heading", () -> column(5, 1, 0, 1, 2, 3, 1));
        Sentences.holds(SIGNS, "covered ones and ones not shown don't count", () -> {
            SightLegend x = Promise10Edges.corners();
            x.addSign(0, 100, 50, 0, 0);
            Checks.equal("line(0, 5)", 3, x.line(0, 5));
        });
        Sentences.holds(SIGNS, "40 of a full map", () -> {
            SightLegend x = new SightLegend();
            for (int i = 0; i < 40; i++) {
                x.addSign(11, 50, 50, i, 0);
            }
            Checks.line(x, 0, 0, 11, -1, 0, 0, 40);
        });
        Sentences.holds(PLACE, "from 0, in one column", () -> column(6, 0, 0, 0, 0, 0, 0));
        Sentences.holds(PLACE, "from 0, down one column", () -> column(7, 0, 1, 2, 3, 4, 5));
        Sentences.holds(PLACE, "the fourth column", () -> {
            SightLegend x = Promise02Edges.withSigns(8);
            x.set(1, 4);
            Checks.places(x, 0, 0, 0, 1, 1, 0, 1, 1, 2, 0, 2, 1, 3, 0, 3, 1);
        });
        refusals();
    }

    private static void refusals() {
        Sentences.holds(RETURNS, "of the last one of 45 lines", () -> {
            SightLegend x = Promise13Edges.mostLines();
            Checks.line(x, 44, 0, 9, 4, 3, 3, 1, 0, 44);
            Checks.line(x, 36, 1, -1, 4, -1, -1, 0, 0, 36);
        });
        Sentences.holds(NO_LINE, "empty: no line at all", () -> {
            SightLegend x = new SightLegend();
            Checks.refusedAll(x, IndexOutOfBoundsException.class, a -> x.line(a, 0), -1, 0, 1);
        });
        Sentences.holds(NO_LINE, "signs, but no lines", () -> {
            SightLegend x = Promise10Edges.allCovered(2);
            Checks.noIndex("line(0, 0)", x, () -> x.line(0, 0));
        });
        Sentences.holds(NO_LINE, "the number behind the last line", () -> {
            SightLegend x = sixLines();
            Checks.refusedAll(x, IndexOutOfBoundsException.class, a -> x.line(a, 0), -1, 6, 7);
        });
        Sentences.holds(NO_LINE, "a line that round 1 had, but the last round has not", () -> {
            SightLegend x = TermsRoundsEdges.fiveLinesThenFour();
            Checks.equal("firstLines()", 5, x.firstLines());
            Checks.equal("line(3, 0)", 0, x.line(3, 0));
            Checks.noIndex("line(4, 0)", x, () -> x.line(4, 0));
        });
        Sentences.holds(NO_LINE, "45 lines: there is no line 45", () -> {
            SightLegend x = Promise13Edges.mostLines();
            Checks.noIndex("line(45, 0)", x, () -> x.line(45, 0));
        });
        Sentences.holds(NO_LINE, "thrown before the other", () -> {
            SightLegend x = sixLines();
            Checks.noIndex("line(6, 8)", x, () -> x.line(6, 8));
            Checks.noIndex("line(-1, -1)", x, () -> x.line(-1, -1));
        });
        Sentences.holds(NO_WHAT, "refused", () -> {
            SightLegend x = sixLines();
            Checks.refusedAll(x, IllegalArgumentException.class, a -> x.line(0, a), -1, 8, 9);
        });
    }
}
