/** Promise 11: sign. */
final class Promise11Edges {
    private static final String SIGN = "`sign`: number of a sign";
    private static final String FACTS = "0 its kind, 1 its column, 2 its row, 3 its value, 4 its level";
    private static final String CLASS = "5 its class";
    private static final String SHOWN = "6 1 if it is shown, otherwise 0";
    private static final String EXPLAINED = "7 1 if it is explained, otherwise 0";
    private static final String LINE = "8 the line that explains it (NONE if none does)";
    private static final String RETURNS = "Returns that value.";
    private static final String NO_SIGN = "Throws `IndexOutOfBoundsException` if there is no such sign";
    private static final String NO_WHAT = "Throws `IllegalArgumentException` if what is out of range";

    private Promise11Edges() {
    }

    static void tests() {
        Sentences.of("Promise 11");
        Sentences.range(SIGN, 0, 3, IndexOutOfBoundsException.class, Promise10Edges::corners,
                (x, a) -> x.sign(a, 0));
        Sentences.range(FACTS, 0, 8, IllegalArgumentException.class, Promise10Edges::corners,
                (x, a) -> x.sign(3, a));
        Sentences.holds(FACTS, "the smallest and the largest", () -> {
            SightLegend x = new SightLegend();
            x.addSign(0, 0, 0, 0, 0);
            x.addSign(11, 199, 198, 9999, 5);
            Checks.sign(x, 0, 0, 0, 0, 0, 0);
            Checks.sign(x, 1, 11, 199, 198, 9999, 5);
        });
        Sentences.holds(CLASS, "0 without limits, 5 with five", () -> {
            SightLegend x = Promise09Edges.full();
            x.addSign(10, 50, 50, 9999, 0);
            x.addSign(11, 50, 50, 50, 0);
            x.addSign(11, 50, 50, 9, 0);
            Checks.equal("without limits", 0, x.sign(0, 5));
            Checks.equal("at the last limit", 5, x.sign(1, 5));
            Checks.equal("below the first limit", 0, x.sign(2, 5));
        });
        Sentences.holds(CLASS, "of a sign that is not shown", () -> {
            SightLegend x = Promise09Edges.full();
            x.addSign(11, 199, 199, 25, 0);
            Checks.sign(x, 0, 11, 199, 199, 25, 0, 2, 0, 0, -1);
        });
        shownAndExplained();
        lines();
        refusals();
    }

    private static void shownAndExplained() {
        Sentences.holds(SHOWN, "within the window, beyond it, beyond the zoom", () -> {
            SightLegend x = Promise02Edges.withSigns(6);
            x.setWindow(30, 40, 10, 10, 4);
            Checks.equal("within", 1, x.sign(4, 6));
            Checks.equal("beyond the zoom", 0, x.sign(5, 6));
            x.setWindow(32, 42, 10, 10, 4);
            Checks.equal("at its first place", 1, x.sign(2, 6));
            Checks.equal("beyond it", 0, x.sign(1, 6));
        });
        Sentences.holds(SHOWN, "a covered sign is shown all the same", () ->
                Checks.equal("sign(0, 6)", 1, Promise10Edges.corners().sign(0, 6)));
        Sentences.holds(EXPLAINED, "covered or not", () -> {
            SightLegend x = Promise10Edges.corners();
            Checks.equal("the covered one", 0, x.sign(0, 7));
            Checks.equal("the last one", 1, x.sign(3, 7));
        });
        Sentences.holds(EXPLAINED, "a sign that is not shown is not explained", () -> {
            SightLegend x = Promise10Edges.corners();
            x.addSign(0, 100, 50, 0, 0);
            Checks.equal("sign(4, 7)", 0, x.sign(4, 7));
        });
    }

    private static void lines() {
        Sentences.holds(LINE, "NONE for a covered sign", () ->
                Checks.equal("sign(0, 8)", -1, Promise10Edges.corners().sign(0, 8)));
        Sentences.holds(LINE, "NONE for a sign that is not shown, though its kind has a line", () -> {
            SightLegend x = Promise10Edges.corners();
            x.addSign(0, 100, 50, 0, 0);
            Checks.equal("sign(4, 8)", -1, x.sign(4, 8));
        });
        Sentences.holds(LINE, "NONE without lines", () ->
                Checks.equal("sign(0, 8)", -1, Promise10Edges.allCovered(1).sign(0, 8)));
        Sentences.holds(LINE, "the first and the last line", () -> {
            SightLegend x = Promise02Edges.withSigns(40);
            Checks.equal("sign(0, 8)", 0, x.sign(0, 8));
            Checks.equal("sign(11, 8)", 11, x.sign(11, 8));
            Checks.equal("sign(12, 8)", 0, x.sign(12, 8));
            Checks.equal("sign(39, 8)", 3, x.sign(39, 8));
        });
        Sentences.holds(LINE, "the first class and the last class of a range", () -> {
            SightLegend x = Promise09Edges.full();
            x.set(0, 2);
            x.addSign(11, 50, 50, 5, 0);
            x.addSign(11, 50, 50, 25, 0);
            x.addSign(11, 50, 50, 55, 0);
            x.addSign(11, 50, 50, 56, 0);
            Checks.line(x, 0, 0, 11, -1, 0, 2, 2);
            Checks.line(x, 1, 0, 11, -1, 5, 5, 2);
            int[] want = {0, 0, 1, 1};
            for (int sign = 0; sign < 4; sign++) {
                Checks.equal("sign(" + sign + ", 8)", want[sign], x.sign(sign, 8));
            }
        });
        Sentences.holds(LINE, "a joined line, and never a heading", () -> {
            SightLegend x = new SightLegend();
            x.setKind(4, 4, 3);
            x.setKind(5, 5, 3);
            x.addSign(4, 50, 50, 0, 0);
            x.addSign(5, 50, 50, 0, 0);
            Checks.equal("behind the heading", 1, x.sign(0, 8));
            Checks.equal("behind the heading", 2, x.sign(1, 8));
            x.setWay(3, 1);
            Checks.equal("the joined line", 0, x.sign(0, 8));
            Checks.equal("the joined line", 0, x.sign(1, 8));
        });
    }

    private static void refusals() {
        Sentences.holds(RETURNS, "of the last one of a full map", () -> {
            SightLegend x = Promise02Edges.withSigns(40);
            Checks.sign(x, 39, 3, 69, 79, 39, 3, 0, 1, 1, 3);
        });
        Sentences.holds(NO_SIGN, "empty: no sign at all", () -> {
            SightLegend x = new SightLegend();
            Checks.refusedAll(x, IndexOutOfBoundsException.class, a -> x.sign(a, 0), -1, 0, 1);
        });
        Sentences.holds(NO_SIGN, "the number behind the last sign", () -> {
            SightLegend x = Promise10Edges.corners();
            Checks.refusedAll(x, IndexOutOfBoundsException.class, a -> x.sign(a, 8), -1, 4, 5, 39, 40);
        });
        Sentences.holds(NO_SIGN, "full: there is no sign 40", () -> {
            SightLegend x = Promise02Edges.withSigns(40);
            Checks.refusedAll(x, IndexOutOfBoundsException.class, a -> x.sign(a, 8), 40, 41);
        });
        Sentences.holds(NO_SIGN, "thrown before the other", () -> {
            SightLegend x = Promise10Edges.corners();
            Checks.noIndex("sign(4, 9)", x, () -> x.sign(4, 9));
            Checks.noIndex("sign(-1, -1)", x, () -> x.sign(-1, -1));
        });
        Sentences.holds(NO_WHAT, "refused", () -> {
            SightLegend x = Promise10Edges.corners();
            Checks.refusedAll(x, IllegalArgumentException.class, a -> x.sign(0, a), -1, 9, 10);
        });
    }
}
