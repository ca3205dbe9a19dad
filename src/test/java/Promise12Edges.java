/** Promise 12: kind. */
final class Promise12Edges {
    private static final String WHAT = "`what`: 0 its rank, 1 its group (NONE without one), "
            + "2 the number of its limits, 3 to 7 its first to fifth limit (NONE if it has not so many), "
            + "8 the number of its lines in the legend (0 if it is in a joined line), "
            + "9 the number of its explained signs";
    private static final String RANK = "0 its rank";
    private static final String GROUP = "1 its group (NONE without one)";
    private static final String COUNT = "2 the number of its limits";
    private static final String LIMITS = "3 to 7 its first to fifth limit (NONE if it has not so many)";
    private static final String LINES = "8 the number of its lines in the legend (0 if it is in a joined line)";
    private static final String SIGNS = "9 the number of its explained signs";
    private static final String RETURNS = "Returns that value.";
    private static final String NO_KIND = "Throws `IndexOutOfBoundsException` if there is no such kind";
    private static final String NO_WHAT = "Throws `IllegalArgumentException` if what is out of range";

    private Promise12Edges() {
    }

    static void tests() {
        Sentences.of("Promise 12");
        Sentences.range("`kind`: 0 to 11", 0, 11, IndexOutOfBoundsException.class, SightLegend::new,
                (x, a) -> x.kind(a, 9));
        Sentences.range(WHAT, 0, 9, IllegalArgumentException.class, SightLegend::new, (x, a) -> x.kind(11, a));
        Sentences.holds(RANK, "the smallest and the largest", () -> {
            SightLegend x = new SightLegend();
            x.setKind(0, 99, 0);
            x.setKind(11, 0, 0);
            Checks.equal("kind(0, 0)", 99, x.kind(0, 0));
            Checks.equal("kind(11, 0)", 0, x.kind(11, 0));
        });
        Sentences.holds(GROUP, "NONE, the smallest and the largest", () -> {
            SightLegend x = new SightLegend();
            x.setKind(0, 0, 0);
            x.setKind(11, 11, 4);
            Checks.equal("kind(0, 1)", 0, x.kind(0, 1));
            Checks.equal("kind(5, 1)", -1, x.kind(5, 1));
            Checks.equal("kind(11, 1)", 4, x.kind(11, 1));
        });
        Sentences.holds(COUNT, "0 and 5", () -> {
            Checks.equal("kind(10, 2)", 0, Promise09Edges.full().kind(10, 2));
            Checks.equal("kind(11, 2)", 5, Promise09Edges.full().kind(11, 2));
        });
        Sentences.holds(LIMITS, "none of five to all of five", () -> {
            SightLegend x = new SightLegend();
            int[] want = {-1, -1, -1, -1, -1};
            limits(x, want);
            for (int i = 0; i < 5; i++) {
                want[i] = 100 * i + 1;
                x.limit(0, 100 * i + 1);
                limits(x, want);
            }
        });
        Sentences.holds(LIMITS, "NONE again behind a limit taken away", () -> {
            SightLegend x = Promise09Edges.full();
            x.limit(11, 50);
            Checks.kind(x, 11, 11, -1, 4, 10, 20, 30, 40, -1);
        });
        Sentences.holds(RETURNS, "each of them at once", () -> {
            SightLegend x = new SightLegend();
            x.setKind(7, 8, 2);
            x.limit(7, 10);
            x.addSign(7, 50, 50, 9, 0);
            x.addSign(7, 50, 50, 10, 0);
            x.addSign(7, 50, 50, 11, 0);
            Checks.kind(x, 7, 8, 2, 1, 10, -1, -1, -1, -1, 2, 3);
        });
        inTheLegend();
        refusals();
    }

    private static void limits(SightLegend x, int... want) {
        for (int i = 0; i < 5; i++) {
            Checks.equal("kind(0, " + (3 + i) + ")", want[i], x.kind(0, 3 + i));
        }
    }

    private static void inTheLegend() {
        Sentences.holds(LINES, "0 without a sign in sight", () -> {
            SightLegend x = Promise10Edges.corners();
            Checks.equal("of another kind", 0, x.kind(1, 8));
            x.setWindow(100, 100, 10, 10, 5);
            Checks.equal("of a kind beyond the window", 0, x.kind(0, 8));
        });
        Sentences.holds(LINES, "6 at most", () -> {
            SightLegend x = Promise09Edges.full();
            x.set(0, 6);
            for (int value = 5; value <= 55; value += 10) {
                x.addSign(11, 50, 50, value, 0);
            }
            Checks.equal("kind(11, 8)", 6, x.kind(11, 8));
            x.set(0, 1);
            Checks.equal("kind(11, 8)", 1, x.kind(11, 8));
        });
        Sentences.holds(LINES, "0 in a joined line, not below a heading", () -> {
            SightLegend x = new SightLegend();
            x.setKind(4, 4, 3);
            x.setKind(5, 5, 3);
            x.addSign(4, 50, 50, 0, 0);
            x.addSign(5, 50, 50, 0, 0);
            Checks.equal("below a heading", 1, x.kind(4, 8));
            x.setWay(3, 1);
            Checks.equal("joined", 0, x.kind(4, 8));
            Checks.equal("joined", 0, x.kind(5, 8));
        });
        Sentences.holds(SIGNS, "0 of a kind all covered", () ->
                Checks.equal("kind(0, 9)", 0, Promise10Edges.allCovered(3).kind(0, 9)));
        Sentences.holds(SIGNS, "covered ones and ones not shown don't count", () -> {
            SightLegend x = Promise10Edges.corners();
            x.addSign(0, 100, 50, 0, 0);
            Checks.equal("kind(0, 9)", 3, x.kind(0, 9));
        });
        Sentences.holds(SIGNS, "in a joined line they count", () -> {
            SightLegend x = new SightLegend();
            x.setKind(4, 4, 3);
            x.setKind(5, 5, 3);
            x.setWay(3, 1);
            x.addSign(4, 50, 50, 0, 0);
            x.addSign(5, 50, 50, 0, 0);
            x.addSign(5, 50, 50, 0, 0);
            Checks.equal("kind(4, 9)", 1, x.kind(4, 9));
            Checks.equal("kind(5, 9)", 2, x.kind(5, 9));
        });
        Sentences.holds(SIGNS, "40 of a full map", () -> {
            SightLegend x = new SightLegend();
            for (int i = 0; i < 40; i++) {
                x.addSign(11, 50, 50, i, 0);
            }
            Checks.equal("kind(11, 9)", 40, x.kind(11, 9));
        });
    }

    private static void refusals() {
        Sentences.holds(NO_KIND, "refused", () -> {
            SightLegend x = new SightLegend();
            Checks.refusedAll(x, IndexOutOfBoundsException.class, a -> x.kind(a, 0), -1, 12, 13);
        });
        Sentences.holds(NO_KIND, "thrown before the other", () -> {
            SightLegend x = new SightLegend();
            Checks.noIndex("kind(12, 10)", x, () -> x.kind(12, 10));
            Checks.noIndex("kind(-1, -1)", x, () -> x.kind(-1, -1));
        });
        Sentences.holds(NO_WHAT, "refused", () -> {
            SightLegend x = new SightLegend();
            Checks.refusedAll(x, IllegalArgumentException.class, a -> x.kind(0, a), -1, 10, 11);
        });
    }
}
