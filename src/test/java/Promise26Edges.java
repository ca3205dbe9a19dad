/** Promise 26: undo. */
final class Promise26Edges {
    private static final String RESTORES =
            "Restores the most recently saved state and removes it from the saved states.";
    private static final String RETURNS = "Returns the number of saved states that remain.";
    private static final String NO_STATE = "Throws `IllegalStateException` if there is no saved state";

    private Promise26Edges() {
    }

    /** Each width of a legend column from the first to the last is set; at first it is 20. */
    static void widths(SightLegend x, int first, int last) {
        for (int width = first; width <= last; width++) {
            x.set(2, width);
        }
    }

    private static void back(SightLegend x, int remain, int width) {
        Checks.equal("undo", remain, x.undo());
        Checks.equal("value(2)", width, x.value(2));
    }

    static void tests() {
        Sentences.of("Promise 26");
        Sentences.holds(RESTORES, "the most recent one first", () -> {
            SightLegend x = new SightLegend();
            widths(x, 1, 4);
            back(x, 3, 3);
            back(x, 2, 2);
            back(x, 1, 1);
            back(x, 0, 20);
        });
        Sentences.holds(RESTORES, "undo itself saves nothing", () -> {
            SightLegend x = new SightLegend();
            widths(x, 1, 2);
            back(x, 1, 1);
            back(x, 0, 20);
            Checks.noState("undo", x, x::undo);
        });
        Sentences.holds(RESTORES, "what is saved behind an undo", () -> {
            SightLegend x = new SightLegend();
            widths(x, 1, 3);
            back(x, 2, 2);
            widths(x, 11, 12);
            back(x, 3, 11);
            back(x, 2, 2);
            back(x, 1, 1);
            back(x, 0, 20);
        });
        Sentences.holds(RESTORES, "the places of the saved states wrap around", Promise26Edges::wrapAround);
        Sentences.holds(RESTORES, "a saved state does not change with the map", () -> {
            SightLegend x = new SightLegend();
            x.addSign(1, 2, 3, 4, 5);
            x.moveSign(0, 12, 13);
            x.moveSign(0, 22, 23);
            x.undo();
            Checks.sign(x, 0, 1, 12, 13, 4, 5);
            x.moveSign(0, 32, 33);
            x.undo();
            Checks.sign(x, 0, 1, 12, 13, 4, 5);
            x.undo();
            Checks.sign(x, 0, 1, 2, 3, 4, 5);
        });
        Sentences.holds(RETURNS, "3 at most, 0 at last", () -> {
            SightLegend x = new SightLegend();
            widths(x, 1, 60);
            for (int remain = 3; remain >= 0; remain--) {
                Checks.equal("undo", remain, x.undo());
            }
        });
        Sentences.holds(NO_STATE, "empty: of a new object", () -> {
            SightLegend x = new SightLegend();
            Checks.noState("undo", x, x::undo);
            Checks.noState("undo again", x, x::undo);
        });
        Sentences.holds(NO_STATE, "when all are taken, of one and of four", () -> {
            for (int count = 1; count <= 4; count++) {
                SightLegend x = new SightLegend();
                widths(x, 1, count);
                for (int i = 0; i < count; i++) {
                    x.undo();
                }
                Checks.noState("undo", x, x::undo);
                Checks.equal("value(2)", 20, x.value(2));
            }
        });
        Sentences.holds(NO_STATE, "behind it a change is saved as ever", () -> {
            SightLegend x = new SightLegend();
            Checks.noState("undo", x, x::undo);
            widths(x, 1, 1);
            back(x, 0, 20);
        });
    }

    private static void wrapAround() {
        SightLegend x = new SightLegend();
        widths(x, 1, 6);
        back(x, 3, 5);
        back(x, 2, 4);
        widths(x, 21, 23);
        back(x, 3, 22);
        back(x, 2, 21);
        back(x, 1, 4);
        back(x, 0, 3);
        Checks.noState("undo", x, x::undo);
        widths(x, 31, 39);
        for (int remain = 3; remain >= 0; remain--) {
            back(x, remain, 35 + remain);
        }
    }
}
