/** Promise 7: setKind. */
final class Promise07Edges {
    private static final String SETS = "Sets rank and group of a kind. Undoable.";
    private static final String GROUP = "`group`: 0 to 4, or NONE";
    private static final String RETURNS = "Returns the previous rank.";
    private static final String NO_KIND = "Throws `IndexOutOfBoundsException` if there is no such kind";
    private static final String NO_ARGUMENT = "Throws `IllegalArgumentException` if rank or group is out of range";

    private Promise07Edges() {
    }

    static void tests() {
        Sentences.of("Promise 7");
        Class<?> refusal = IllegalArgumentException.class;
        Sentences.range("`kind`: 0 to 11", 0, 11, IndexOutOfBoundsException.class, SightLegend::new,
                (x, a) -> x.setKind(a, 5, 2));
        Sentences.range("`rank`: 0 to 99", 0, 99, refusal, SightLegend::new,
                (x, a) -> x.setKind(6, a, 2), x -> x.kind(6, 0));
        Sentences.range(GROUP, -1, 4, refusal, SightLegend::new, (x, a) -> x.setKind(6, 5, a), x -> x.kind(6, 1));
        Sentences.holds(GROUP, "0 and NONE again", () -> {
            SightLegend x = new SightLegend();
            x.setKind(6, 5, 0);
            Checks.equal("kind(6, 1)", 0, x.kind(6, 1));
            x.setKind(6, 5, SightLegend.NONE);
            Checks.equal("kind(6, 1)", -1, x.kind(6, 1));
        });
        Sentences.holds(SETS, "of the first and the last kind alone", () -> {
            SightLegend x = new SightLegend();
            x.setKind(0, 99, 4);
            x.setKind(11, 0, 0);
            Checks.kind(x, 0, 99, 4, 0, -1, -1, -1, -1, -1);
            for (int kind = 1; kind < 11; kind++) {
                Checks.kind(x, kind, kind, -1, 0, -1, -1, -1, -1, -1);
            }
            Checks.kind(x, 11, 0, 0, 0, -1, -1, -1, -1, -1);
        });
        Sentences.holds(SETS, "undo", () -> {
            SightLegend x = new SightLegend();
            x.setKind(3, 99, 4);
            Checks.undone("setKind", x, 1, () -> x.setKind(3, 0, SightLegend.NONE));
            Checks.kind(x, 3, 99, 4);
            Checks.undone("setKind, the same", x, 1, () -> x.setKind(3, 99, 4));
        });
        Sentences.holds(RETURNS, "the initial one, the largest, the smallest", () -> {
            SightLegend x = new SightLegend();
            Checks.equal("setKind", 11, x.setKind(11, 99, 0));
            Checks.equal("setKind", 99, x.setKind(11, 0, 1));
            Checks.equal("setKind", 0, x.setKind(11, 0, 2));
            Checks.equal("setKind of kind 0", 0, x.setKind(0, 5, 2));
        });
        refusals();
    }

    private static void refusals() {
        Sentences.holds(NO_KIND, "refused", () -> {
            SightLegend x = new SightLegend();
            Checks.refusedAll(x, IndexOutOfBoundsException.class, a -> x.setKind(a, 5, 2), -1, 12, 13, 99);
        });
        Sentences.holds(NO_KIND, "thrown before the other", () -> {
            SightLegend x = new SightLegend();
            Checks.noIndex("a wrong rank too", x, () -> x.setKind(12, 100, 0));
            Checks.noIndex("a wrong group too", x, () -> x.setKind(-1, 0, 5));
        });
        Sentences.holds(NO_ARGUMENT, "a wrong rank sets no group", () -> {
            SightLegend x = new SightLegend();
            Checks.refusedAll(x, IllegalArgumentException.class, a -> x.setKind(6, a, 2), -1, 100);
            Checks.kind(x, 6, 6, -1);
        });
        Sentences.holds(NO_ARGUMENT, "a wrong group sets no rank", () -> {
            SightLegend x = new SightLegend();
            Checks.refusedAll(x, IllegalArgumentException.class, a -> x.setKind(6, 5, a), -3, -2, 5, 6, 11);
            Checks.kind(x, 6, 6, -1);
        });
    }
}
