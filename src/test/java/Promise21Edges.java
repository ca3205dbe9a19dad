/** Promise 21: zoomFor. */
final class Promise21Edges {
    private static final String FINDS =
            "Finds the smallest zoom with which all signs of a kind in the window would be shown.";
    private static final String RETURNS = "Returns the zoom, 0 to 5; 0 if there is none in the window.";
    private static final String NO_KIND = "Throws `IndexOutOfBoundsException` if there is no such kind";

    private Promise21Edges() {
    }

    private static SightLegend withSign(int column, int row, int level) {
        SightLegend x = new SightLegend();
        x.setWindow(10, 20, 30, 40, 0);
        x.addSign(7, column, row, 0, level);
        return x;
    }

    static void tests() {
        Sentences.of("Promise 21");
        Sentences.range("`kind`: 0 to 11", 0, 11, IndexOutOfBoundsException.class, SightLegend::new,
                SightLegend::zoomFor);
        Sentences.holds(RETURNS, "each level, whatever the zoom of the window is", () -> {
            for (int level = 0; level <= 5; level++) {
                SightLegend x = withSign(20, 30, level);
                Checks.equal("zoomFor with zoom 0", level, x.zoomFor(7));
                x.setWindow(10, 20, 30, 40, 5);
                Checks.equal("zoomFor with zoom 5", level, x.zoomFor(7));
            }
        });
        Sentences.holds(RETURNS, "empty: no signs", () -> {
            Checks.equal("zoomFor(0)", 0, new SightLegend().zoomFor(0));
            Checks.equal("zoomFor(11)", 0, new SightLegend().zoomFor(11));
        });
        Sentences.holds(RETURNS, "none of this kind", () -> {
            Checks.equal("zoomFor(6)", 0, withSign(20, 30, 5).zoomFor(6));
            Checks.equal("zoomFor(8)", 0, withSign(20, 30, 5).zoomFor(8));
        });
        Sentences.holds(RETURNS, "none in the window, by a column or a row", () -> {
            Checks.equal("left of it", 0, withSign(9, 30, 5).zoomFor(7));
            Checks.equal("right of it", 0, withSign(40, 30, 5).zoomFor(7));
            Checks.equal("above it", 0, withSign(20, 19, 5).zoomFor(7));
            Checks.equal("below it", 0, withSign(20, 60, 5).zoomFor(7));
        });
        Sentences.holds(FINDS, "the first and the last places in the window", () -> {
            Checks.equal("left", 5, withSign(10, 30, 5).zoomFor(7));
            Checks.equal("right", 5, withSign(39, 30, 5).zoomFor(7));
            Checks.equal("top", 5, withSign(20, 20, 5).zoomFor(7));
            Checks.equal("bottom", 5, withSign(20, 59, 5).zoomFor(7));
        });
        Sentences.holds(FINDS, "all of several, in any order", () -> {
            SightLegend x = withSign(20, 30, 2);
            x.addSign(7, 21, 31, 0, 4);
            x.addSign(7, 22, 32, 0, 3);
            x.addSign(7, 9, 32, 0, 5);
            Checks.equal("zoomFor(7)", 4, x.zoomFor(7));
            x.removeSign(1);
            Checks.equal("zoomFor(7) without the second", 3, x.zoomFor(7));
        });
        Sentences.holds(FINDS, "the last one of a full map", () -> {
            SightLegend x = Promise02Edges.withSigns(40);
            x.setWindow(69, 79, 10, 10, 0);
            Checks.equal("zoomFor(3)", 3, x.zoomFor(3));
            Checks.changesNothing("zoomFor", x, () -> x.zoomFor(3));
        });
        Sentences.holds(NO_KIND, "refused", () -> {
            SightLegend x = withSign(20, 30, 5);
            Checks.refusedAll(x, IndexOutOfBoundsException.class, x::zoomFor, -1, 12, 13);
        });
    }
}
