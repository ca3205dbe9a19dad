/** Promise 10: value. */
final class Promise10Edges {
    private static final String WHAT = "`what`: 0 to 3 the settings, 4 the left column, 5 the top row, "
            + "6 the width, 7 the height, 8 the zoom of the window, 9 the signs, 10 the shown signs, "
            + "11 the explained signs";
    private static final String RETURNS = "Returns that number.";
    private static final String NO_WHAT = "Throws `IllegalArgumentException` if what is out of range";

    private Promise10Edges() {
    }

    /** All signs are covered by the box of round 1, so that the eighth round has none in sight. */
    static SightLegend allCovered(int signs) {
        SightLegend x = new SightLegend();
        x.setWindow(0, 0, 10, 10, 5);
        x.set(2, 60);
        x.set(3, 20);
        for (int i = 0; i < signs; i++) {
            x.addSign(i % 12, i % 10, i / 10, 0, 0);
        }
        return x;
    }

    static void tests() {
        Sentences.of("Promise 10");
        Sentences.range(WHAT, 0, 11, IllegalArgumentException.class, SightLegend::new, SightLegend::value);
        Sentences.holds(WHAT, "0 to 3", () -> {
            SightLegend x = new SightLegend();
            x.set(0, 6);
            x.set(1, 4);
            x.set(2, 60);
            x.set(3, 20);
            Checks.values(x, 0, 6, 4, 60, 20, 0);
        });
        Sentences.holds(WHAT, "4 to 8", () -> {
            SightLegend x = new SightLegend();
            x.setWindow(199, 198, 200, 199, 4);
            Checks.values(x, 3, 5, 199, 198, 200, 199, 4, 0);
        });
        Sentences.holds(RETURNS, "empty: no signs", () -> Checks.values(new SightLegend(), 9, 0, 0, 0));
        Sentences.holds(RETURNS, "full: 40 signs, all shown, all explained", () ->
                Checks.values(Promise02Edges.withSigns(40), 9, 40, 40, 40));
        Sentences.holds(RETURNS, "signs, none of them shown", () -> {
            SightLegend x = Promise02Edges.withSigns(40);
            x.setWindow(199, 199, 10, 10, 5);
            Checks.values(x, 9, 40, 0, 0);
        });
        Sentences.holds(RETURNS, "shown signs, none of them explained", () ->
                Checks.values(allCovered(40), 9, 40, 40, 0));
        Sentences.holds(RETURNS, "all but one shown, all but one of these explained", () -> {
            SightLegend x = corners();
            x.addSign(0, 100, 50, 0, 0);
            Checks.values(x, 9, 5, 4, 3);
        });
        Sentences.holds(NO_WHAT, "refused", () -> {
            SightLegend x = corners();
            Checks.refusedAll(x, IllegalArgumentException.class, x::value, -1, 12, 13, 99);
        });
    }

    /** A sign of kind 0 in each corner of the window: the box covers that of corner 0. */
    static SightLegend corners() {
        SightLegend x = new SightLegend();
        x.addSign(0, 0, 0, 0, 0);
        x.addSign(0, 99, 0, 0, 0);
        x.addSign(0, 0, 99, 0, 0);
        x.addSign(0, 99, 99, 0, 0);
        return x;
    }
}
