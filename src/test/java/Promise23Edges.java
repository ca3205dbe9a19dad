/** Promise 23: append. */
final class Promise23Edges {
    private static final String VALUE = "`value`: the byte, 0 to 127";
    private static final String APPENDS = "Appends a byte to the sign text.";
    private static final String RETURNS = "Returns the new length of the text.";
    private static final String NO_BYTE = "Throws `IllegalArgumentException` if value is out of range";
    private static final String FULL = "Throws `IllegalStateException` if the text has 160 bytes";

    private Promise23Edges() {
    }

    /** A map with a text of so many bytes, the first ones of sixteen signs. */
    static SightLegend withText(int length) {
        SightLegend x = new SightLegend();
        for (int i = 0; i < length; i++) {
            x.append("7,1,2,3,4;".charAt(i % 10));
        }
        return x;
    }

    static void tests() {
        Sentences.of("Promise 23");
        Sentences.range(VALUE, 0, 127, IllegalArgumentException.class, SightLegend::new, SightLegend::append);
        Sentences.holds(APPENDS, "at the end", () -> {
            SightLegend x = new SightLegend();
            Checks.write(x, "7,8,9,10,");
            x.append('5');
            x.append(';');
            Checks.equal("parse()", 1, x.parse());
            Checks.sign(x, 0, 7, 8, 9, 10, 5);
        });
        Sentences.holds(APPENDS, "the 160th byte is read too", () -> {
            SightLegend x = withText(159);
            Checks.equal("parse() of 159 bytes", -10 - 159, x.parse());
            x.append(';');
            Checks.equal("parse() of 160 bytes", 16, x.parse());
        });
        Sentences.holds(APPENDS, "it is not undoable, and alters nothing but the text", () -> {
            SightLegend x = Promise02Edges.withSigns(1);
            x.append('7');
            Checks.equal("undo", 0, x.undo());
            Checks.noState("undo", x, x::undo);
            Checks.equal("the text stays", 1, x.clearText());
        });
        Sentences.holds(RETURNS, "1 to 160", () -> {
            SightLegend x = new SightLegend();
            for (int length = 1; length <= 160; length++) {
                Checks.equal("append", length, x.append(length % 128));
            }
        });
        Sentences.holds(RETURNS, "of an emptied text", () -> {
            SightLegend x = withText(160);
            x.clearText();
            Checks.equal("append", 1, x.append(0));
        });
        Sentences.holds(NO_BYTE, "refused", () -> {
            SightLegend x = withText(3);
            Checks.refusedAll(x, IllegalArgumentException.class, x::append, -128, -1, 128, 129, 176, 255, 256);
            Checks.equal("the length", 3, x.clearText());
        });
        Sentences.holds(NO_BYTE, "thrown before the full text", () -> {
            SightLegend x = withText(160);
            Checks.refusedAll(x, IllegalArgumentException.class, x::append, -1, 128);
        });
        Sentences.holds(FULL, "159 bytes: taken", () -> Checks.equal("append", 160, withText(159).append(0)));
        Sentences.holds(FULL, "full: refused", () -> {
            SightLegend x = withText(160);
            Checks.refusedAll(x, IllegalStateException.class, x::append, 0, 48, 127);
            Checks.equal("the text is as it was", 16, x.parse());
            Checks.equal("its length too", 160, x.clearText());
        });
        Sentences.holds(FULL, "parse and undo make no room", () -> {
            SightLegend x = withText(160);
            x.parse();
            Checks.noState("behind parse", x, () -> x.append(48));
            x.undo();
            Checks.noState("behind undo", x, () -> x.append(48));
        });
    }
}
