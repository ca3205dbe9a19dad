/** Promise 25: parse. What can stand where, tells TermsTextEdges. */
final class Promise25Edges {
    private static final String MAKES = "Makes the signs those of the text; all else stays.";
    private static final String TEXT = "The text stays as it is.";
    private static final String UNDOABLE = "Undoable, if there is no syntax error.";
    private static final String RETURNS = "Returns the number of signs; "
            + "-10 minus the syntax error position if there is a syntax error (then nothing changes).";

    private Promise25Edges() {
    }

    static void tests() {
        Sentences.of("Promise 25");
        making();
        Sentences.holds(TEXT, "behind a parse, and behind a syntax error", () -> {
            SightLegend x = Promise23Edges.withText(20);
            x.parse();
            Checks.equal("a second parse", 2, x.parse());
            Checks.equal("one byte more", 21, x.append('x'));
            Checks.equal("with an error", -10 - 20, x.parse());
            Checks.equal("with the same error", -10 - 20, x.parse());
            Checks.equal("clearText()", 21, x.clearText());
        });
        Sentences.holds(UNDOABLE, "the signs from before, 40 of them", () -> {
            SightLegend x = Promise02Edges.withSigns(40);
            Checks.write(x, "7,1,2,3,4;");
            x.parse();
            Checks.equal("undo", 3, x.undo());
            Checks.equal("value(9)", 40, x.value(9));
            Checks.sign(x, 0, 0, 30, 40, 0, 0);
            Checks.sign(x, 39, 3, 69, 79, 39, 3);
        });
        Sentences.holds(UNDOABLE, "an empty text, which makes no signs of none", () -> {
            SightLegend x = new SightLegend();
            Checks.undone("parse", x, 0, x::parse);
        });
        Sentences.holds(UNDOABLE, "with a syntax error nothing is saved", () -> {
            SightLegend x = Promise23Edges.withText(159);
            Checks.changesNothing("parse", x, x::parse);
            Checks.noState("undo", x, x::undo);
        });
        returns();
    }

    private static void making() {
        Sentences.holds(MAKES, "empty: no sign is left", () -> {
            SightLegend x = Promise02Edges.withSigns(40);
            x.parse();
            Checks.equal("value(9)", 0, x.value(9));
            Checks.equal("lines()", 0, x.lines());
        });
        Sentences.holds(MAKES, "the smallest and the largest of all numbers", () -> {
            SightLegend x = Promise02Edges.withSigns(3);
            Checks.write(x, "0,0,0,0,0;11,199,199,9999,5;");
            x.parse();
            Checks.equal("value(9)", 2, x.value(9));
            Checks.sign(x, 0, 0, 0, 0, 0, 0);
            Checks.sign(x, 1, 11, 199, 199, 9999, 5);
        });
        Sentences.holds(MAKES, "sixteen, in their order", () -> {
            SightLegend x = new SightLegend();
            StringBuilder text = new StringBuilder();
            for (int i = 0; i < 16; i++) {
                text.append(i % 10).append(",1,2,3,").append(i % 6).append(';');
            }
            Checks.write(x, text.toString());
            x.parse();
            Checks.equal("value(9)", 16, x.value(9));
            for (int i = 0; i < 16; i++) {
                Checks.sign(x, i, i % 10, 1, 2, 3, i % 6);
            }
        });
        Sentences.holds(MAKES, "kinds, ways, the window and the settings stay", () -> {
            SightLegend x = Promise09Edges.full();
            x.setKind(11, 99, 4);
            x.setWay(4, 1);
            x.setWindow(1, 2, 30, 40, 3);
            x.set(0, 6);
            x.append('1');
            Checks.equal("parse of a sign that ends too early", -11, x.parse());
            x.clearText();
            Checks.equal("parse()", 0, x.parse());
            Checks.kind(x, 11, 99, 4, 5, 10, 20, 30, 40, 50);
            Checks.values(x, 0, 6, 1, 20, 5, 1, 2, 30, 40, 3);
            Checks.equal("the way", 1, x.setWay(4, 1));
        });
        Sentences.holds(MAKES, "the legend is that of the new signs", () -> {
            SightLegend x = Promise02Edges.withSigns(12);
            Checks.equal("lines() before", 12, x.lines());
            Checks.write(x, "3,50,50,0,0;");
            x.parse();
            Checks.equal("lines()", 1, x.lines());
            Checks.line(x, 0, 0, 3, -1, 0, 0, 1);
        });
    }

    private static void returns() {
        Sentences.holds(RETURNS, "empty: 0", () -> Checks.equal("parse()", 0, new SightLegend().parse()));
        Sentences.holds(RETURNS, "full: 16 signs of 160 bytes", () ->
                Checks.equal("parse()", 16, Promise23Edges.withText(160).parse()));
        Sentences.holds(RETURNS, "the smallest position, 0", () -> {
            SightLegend x = new SightLegend();
            x.append(';');
            Checks.equal("parse()", -10, x.parse());
        });
        Sentences.holds(RETURNS, "the last byte, 159", () -> {
            SightLegend x = Promise23Edges.withText(159);
            x.append(',');
            Checks.equal("parse()", -169, x.parse());
        });
        Sentences.holds(RETURNS, "the largest position, 160", () -> {
            SightLegend x = Promise23Edges.withText(150);
            for (char b : "7,11,22,33".toCharArray()) {
                x.append(b);
            }
            Checks.equal("parse()", -170, x.parse());
        });
        Sentences.holds(RETURNS, "(then nothing changes): not by the signs before the error either", () -> {
            SightLegend x = Promise02Edges.withSigns(40);
            Checks.write(x, "7,1,2,3,4;7,1,2,3,4;7,1,2,3,4;12,");
            Checks.changesNothing("parse", x, () -> Checks.equal("parse()", -10 - 30, x.parse()));
            Checks.sign(x, 0, 0, 30, 40, 0, 0);
            Checks.sign(x, 39, 3, 69, 79, 39, 3);
        });
        Sentences.holds(RETURNS, "behind a syntax error a good text is read again", () -> {
            SightLegend x = new SightLegend();
            Checks.write(x, "7,1,2,3,4;x");
            Checks.equal("parse()", -10 - 10, x.parse());
            x.clearText();
            Checks.write(x, "7,1,2,3,4;");
            Checks.equal("parse()", 1, x.parse());
        });
    }
}
