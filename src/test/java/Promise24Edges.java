/** Promise 24: clearText. */
final class Promise24Edges {
    private static final String EMPTIES = "Empties the sign text.";
    private static final String RETURNS = "Returns the length that it had.";

    private Promise24Edges() {
    }

    static void tests() {
        Sentences.of("Promise 24");
        Sentences.holds(EMPTIES, "nothing of it is left", () -> {
            SightLegend x = Promise23Edges.withText(160);
            x.clearText();
            Checks.equal("parse() of no text", 0, x.parse());
            x.append('7');
            Checks.equal("parse() of a byte", -10 - 1, x.parse());
        });
        Sentences.holds(EMPTIES, "an empty text stays empty", () -> {
            SightLegend x = new SightLegend();
            x.clearText();
            Checks.equal("clearText()", 0, x.clearText());
            Checks.equal("append", 1, x.append(48));
        });
        Sentences.holds(EMPTIES, "the signs of it stay", () -> {
            SightLegend x = Promise23Edges.withText(160);
            x.parse();
            x.clearText();
            Checks.equal("value(9)", 16, x.value(9));
        });
        Sentences.holds(EMPTIES, "it is not undoable", () -> {
            SightLegend x = Promise23Edges.withText(10);
            x.clearText();
            Checks.noState("undo", x, x::undo);
            x.set(0, 1);
            x.append(48);
            x.append(48);
            x.clearText();
            Checks.equal("undo", 0, x.undo());
            Checks.equal("the text behind undo", 0, x.clearText());
        });
        Sentences.holds(RETURNS, "empty: 0", () -> Checks.equal("clearText()", 0, new SightLegend().clearText()));
        Sentences.holds(RETURNS, "1", () -> Checks.equal("clearText()", 1, Promise23Edges.withText(1).clearText()));
        Sentences.holds(RETURNS, "full: 160", () ->
                Checks.equal("clearText()", 160, Promise23Edges.withText(160).clearText()));
        Sentences.holds(RETURNS, "behind a refused byte", () -> {
            SightLegend x = Promise23Edges.withText(160);
            Checks.noState("append", x, () -> x.append(48));
            Checks.equal("clearText()", 160, x.clearText());
        });
    }
}
