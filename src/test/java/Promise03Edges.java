/** Promise 3: removeSign. */
final class Promise03Edges {
    private static final String REMOVES =
            "Removes a sign; the numbers of those behind it decrease by 1. Undoable.";
    private static final String RETURNS = "Returns the number of signs that are left.";
    private static final String NO_SIGN = "Throws `IndexOutOfBoundsException` if there is no such sign";

    private Promise03Edges() {
    }

    private static SightLegend three() {
        SightLegend x = new SightLegend();
        x.addSign(1, 11, 21, 31, 1);
        x.addSign(2, 12, 22, 32, 2);
        x.addSign(3, 13, 23, 33, 3);
        return x;
    }

    static void tests() {
        Sentences.of("Promise 3");
        Sentences.range("`sign`: number of a sign", 0, 2, IndexOutOfBoundsException.class, Promise03Edges::three,
                SightLegend::removeSign);
        Sentences.holds(REMOVES, "the first one", () -> removed(0, 2, 3));
        Sentences.holds(REMOVES, "one in the middle", () -> removed(1, 1, 3));
        Sentences.holds(REMOVES, "the last one, with none behind it", () -> removed(2, 1, 2));
        Sentences.holds(REMOVES, "the only one", () -> {
            SightLegend x = new SightLegend();
            x.addSign(4, 50, 50, 1, 0);
            x.removeSign(0);
            Checks.equal("value(9)", 0, x.value(9));
            Checks.equal("lines()", 0, x.lines());
        });
        Sentences.holds(REMOVES, "the first one of a full map", () -> {
            SightLegend x = Promise02Edges.withSigns(40);
            x.removeSign(0);
            for (int sign = 0; sign < 39; sign++) {
                int old = sign + 1;
                Checks.sign(x, sign, old % 12, 30 + old, 40 + old, old, old % 6);
            }
        });
        Sentences.holds(REMOVES, "the last one of a full map", () -> {
            SightLegend x = Promise02Edges.withSigns(40);
            x.removeSign(39);
            Checks.sign(x, 0, 0, 30, 40, 0, 0);
            Checks.sign(x, 38, 2, 68, 78, 38, 2);
        });
        Sentences.holds(REMOVES, "undo brings each one back to its number", () -> {
            for (int sign = 0; sign < 3; sign++) {
                SightLegend x = three();
                int one = sign;
                Checks.undone("removeSign(" + one + ")", x, 3, () -> x.removeSign(one));
            }
        });
        Sentences.holds(RETURNS, "39 of a full map", () ->
                Checks.equal("removeSign", 39, Promise02Edges.withSigns(40).removeSign(7)));
        Sentences.holds(RETURNS, "down to 0", () -> {
            SightLegend x = three();
            Checks.equal("removeSign", 2, x.removeSign(0));
            Checks.equal("removeSign", 1, x.removeSign(1));
            Checks.equal("removeSign", 0, x.removeSign(0));
        });
        refusals();
    }

    private static void removed(int sign, int first, int second) {
        SightLegend x = three();
        x.removeSign(sign);
        Checks.equal("value(9)", 2, x.value(9));
        Checks.sign(x, 0, first, 10 + first, 20 + first, 30 + first, first);
        Checks.sign(x, 1, second, 10 + second, 20 + second, 30 + second, second);
    }

    private static void refusals() {
        Sentences.holds(NO_SIGN, "empty: no sign at all", () -> {
            SightLegend x = new SightLegend();
            Checks.refusedAll(x, IndexOutOfBoundsException.class, x::removeSign, -1, 0, 1);
        });
        Sentences.holds(NO_SIGN, "the number behind the last sign", () -> {
            SightLegend x = three();
            Checks.refusedAll(x, IndexOutOfBoundsException.class, x::removeSign, -1, 3, 4, 39, 40);
        });
        Sentences.holds(NO_SIGN, "full: there is no sign 40", () -> {
            SightLegend x = Promise02Edges.withSigns(40);
            Checks.refusedAll(x, IndexOutOfBoundsException.class, x::removeSign, 40, 41);
        });
        Sentences.holds(NO_SIGN, "the number that a removed sign had", () -> {
            SightLegend x = three();
            x.removeSign(0);
            Checks.noIndex("removeSign(2)", x, () -> x.removeSign(2));
        });
    }
}
