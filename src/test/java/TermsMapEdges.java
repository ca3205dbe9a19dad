/** Terms: the signs, the window and the settings; and what the document says ahead of the terms. */
final class TermsMapEdges {
    private static final String SIGNS = "There are at most 40 signs, numbered from 0.";
    private static final String SIGN =
            "A sign has a kind, a column and a row, 0 to 199 each, a value, 0 to 9999, and a level, 0 to 5.";
    private static final String WINDOW = "The window has a left column and a top row, 0 to 199, initially 0, "
            + "a width and a height, 10 to 200, initially 100, and a zoom, 0 to 5, initially 5.";
    private static final String SHOWN = "A sign is shown if its level is at most the zoom, "
            + "its column is at least the left one and less than the left one plus the width, "
            + "and likewise with its row, the top row and the height.";
    private static final String[] SETTINGS = {
        "0 the most lines of a kind, 1 to 6, initially 3",
        "1 the columns of the legend, 1 to 4, initially 1",
        "2 the width of a legend column, 1 to 60, initially 20",
        "3 the height of a line, 1 to 20, initially 5",
    };
    private static final int[] HIGHEST = {6, 4, 60, 20};
    private static final int[] INITIAL = {3, 1, 20, 5};
    private static final Class<?> NO_ARGUMENT = IllegalArgumentException.class;

    private TermsMapEdges() {
    }

    static void tests() {
        Sentences.of("Terms");
        signs();
        window();
        shown();
        for (int what = 0; what < 4; what++) {
            int w = what;
            Sentences.range(SETTINGS[w], 1, HIGHEST[w], NO_ARGUMENT, SightLegend::new,
                    (x, a) -> x.set(w, a), x -> x.value(w));
            Sentences.holds(SETTINGS[w], "initially", () ->
                    Checks.equal("value(" + w + ")", INITIAL[w], new SightLegend().value(w)));
        }
        Sentences.holds("The constants: `NONE = -1`: There is no such thing.", "its value", () ->
                Checks.equal("NONE", -1, SightLegend.NONE));
        ahead();
    }

    private static void signs() {
        Sentences.holds(SIGNS, "full: the 40th is taken, the 41st is refused", () -> {
            SightLegend x = Promise02Edges.withSigns(39);
            Checks.equal("addSign", 39, x.addSign(0, 0, 0, 0, 0));
            Checks.noState("addSign", x, () -> x.addSign(0, 0, 0, 0, 0));
        });
        Sentences.holds(SIGNS, "from 0 to 39", () -> {
            SightLegend x = Promise02Edges.withSigns(40);
            Checks.sign(x, 0, 0, 30, 40, 0, 0);
            Checks.sign(x, 39, 3, 69, 79, 39, 3);
            Checks.noIndex("sign(40, 0)", x, () -> x.sign(40, 0));
        });
        Sentences.range(SIGN, 0, 199, NO_ARGUMENT, SightLegend::new,
                (x, a) -> x.addSign(1, a, 1, 1, 1), x -> x.sign(0, 1));
        Sentences.range(SIGN, 0, 199, NO_ARGUMENT, SightLegend::new,
                (x, a) -> x.addSign(1, 1, a, 1, 1), x -> x.sign(0, 2));
        Sentences.range(SIGN, 0, 9999, NO_ARGUMENT, SightLegend::new,
                (x, a) -> x.addSign(1, 1, 1, a, 1), x -> x.sign(0, 3));
        Sentences.range(SIGN, 0, 5, NO_ARGUMENT, SightLegend::new,
                (x, a) -> x.addSign(1, 1, 1, 1, a), x -> x.sign(0, 4));
    }

    private static void window() {
        Sentences.holds(WINDOW, "initially", () -> Checks.values(new SightLegend(), 4, 0, 0, 100, 100, 5));
        Sentences.range(WINDOW, 0, 199, NO_ARGUMENT, SightLegend::new,
                (x, a) -> x.setWindow(a, 0, 10, 10, 0), x -> x.value(4));
        Sentences.range(WINDOW, 0, 199, NO_ARGUMENT, SightLegend::new,
                (x, a) -> x.setWindow(0, a, 10, 10, 0), x -> x.value(5));
        Sentences.range(WINDOW, 10, 200, NO_ARGUMENT, SightLegend::new,
                (x, a) -> x.setWindow(0, 0, a, 10, 0), x -> x.value(6));
        Sentences.range(WINDOW, 10, 200, NO_ARGUMENT, SightLegend::new,
                (x, a) -> x.setWindow(0, 0, 10, a, 0), x -> x.value(7));
        Sentences.range(WINDOW, 0, 5, NO_ARGUMENT, SightLegend::new,
                (x, a) -> x.setWindow(0, 0, 10, 10, a), x -> x.value(8));
    }

    /** Whether a sign is shown in a window from column 50 and row 70 on, 10 wide and 20 high. */
    private static void isShown(int want, int column, int row) {
        SightLegend x = new SightLegend();
        x.addSign(0, column, row, 0, 5);
        Checks.equal("setWindow", want, x.setWindow(50, 70, 10, 20, 5));
        Checks.equal("a sign at " + column + ", " + row, want, x.sign(0, 6));
    }

    private static void shown() {
        Sentences.holds(SHOWN, "each level with each zoom", () -> {
            for (int level = 0; level <= 5; level++) {
                for (int zoom = 0; zoom <= 5; zoom++) {
                    SightLegend x = new SightLegend();
                    x.addSign(0, 5, 5, 0, level);
                    int want = level <= zoom ? 1 : 0;
                    Checks.equal("level " + level + ", zoom " + zoom, want, x.setWindow(0, 0, 10, 10, zoom));
                }
            }
        });
        Sentences.holds(SHOWN, "before the left column", () -> isShown(0, 49, 80));
        Sentences.holds(SHOWN, "at the left column", () -> isShown(1, 50, 80));
        Sentences.holds(SHOWN, "at the last column", () -> isShown(1, 59, 80));
        Sentences.holds(SHOWN, "behind the last column", () -> isShown(0, 60, 80));
        Sentences.holds(SHOWN, "above the top row", () -> isShown(0, 55, 69));
        Sentences.holds(SHOWN, "at the top row", () -> isShown(1, 55, 70));
        Sentences.holds(SHOWN, "at the last row", () -> isShown(1, 55, 89));
        Sentences.holds(SHOWN, "below the last row", () -> isShown(0, 55, 90));
        Sentences.holds(SHOWN, "in the four corners, and just outside them", () -> {
            isShown(1, 50, 70);
            isShown(1, 59, 89);
            isShown(0, 49, 69);
            isShown(0, 60, 90);
        });
        Sentences.holds(SHOWN, "a window beyond the map does not wrap around to its start", () -> {
            SightLegend x = new SightLegend();
            x.addSign(0, 0, 0, 0, 0);
            x.addSign(0, 198, 198, 0, 0);
            x.addSign(0, 199, 199, 0, 0);
            Checks.equal("setWindow", 1, x.setWindow(199, 199, 200, 200, 5));
            Checks.equal("sign(0, 6)", 0, x.sign(0, 6));
            Checks.equal("sign(1, 6)", 0, x.sign(1, 6));
            Checks.equal("sign(2, 6)", 1, x.sign(2, 6));
        });
        Sentences.holds(SHOWN, "a moved sign", () -> {
            SightLegend x = new SightLegend();
            x.addSign(0, 99, 99, 0, 0);
            Checks.equal("at the last place", 1, x.value(10));
            x.moveSign(0, 100, 99);
            Checks.equal("behind it", 0, x.value(10));
            x.moveSign(0, 99, 100);
            Checks.equal("below it", 0, x.value(10));
        });
    }

    private static void ahead() {
        Sentences.of("What it is");
        Sentences.holds("An object is used for at most 512 calls after it has been made", "the 512th call answers", () -> {
            SightLegend x = new SightLegend();
            for (int call = 1; call <= 510; call++) {
                x.set(2, call % 60 + 1);
            }
            Checks.equal("the 511th call", 31, x.value(2));
            Checks.equal("the 512th call", 3, x.undo());
        });
        Sentences.holds("a / b means division rounded down", "seven lines in four columns: h = 10 / 4 = 2", () -> {
            SightLegend x = Promise02Edges.withSigns(7);
            x.set(1, 4);
            Checks.places(x, 0, 0, 0, 1, 1, 0, 1, 1, 2, 0, 2, 1, 3, 0);
        });
    }
}
