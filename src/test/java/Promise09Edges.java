/** Promise 9: limit. */
final class Promise09Edges {
    private static final String ADDS = "Adds a limit to a kind, or takes it away, if the kind has it. Undoable.";
    private static final String RETURNS = "Returns the number of limits of the kind then.";
    private static final String NO_KIND = "Throws `IndexOutOfBoundsException` if there is no such kind";
    private static final String NO_LIMIT = "Throws `IllegalArgumentException` if limit is out of range";
    private static final String FULL = "Throws `IllegalStateException` if the kind has 5 other limits";

    private Promise09Edges() {
    }

    /** A map whose last kind has five limits. */
    static SightLegend full() {
        SightLegend x = new SightLegend();
        for (int limit : new int[] {30, 10, 50, 20, 40}) {
            x.limit(11, limit);
        }
        return x;
    }

    static void tests() {
        Sentences.of("Promise 9");
        Sentences.range("`kind`: 0 to 11", 0, 11, IndexOutOfBoundsException.class, SightLegend::new,
                (x, a) -> x.limit(a, 5));
        Sentences.range("`limit`: 1 to 9999", 1, 9999, IllegalArgumentException.class, SightLegend::new,
                (x, a) -> x.limit(7, a), x -> x.kind(7, 3));
        adding();
        Sentences.holds(RETURNS, "1 to 5, and down to 0", () -> {
            SightLegend x = new SightLegend();
            for (int i = 1; i <= 5; i++) {
                Checks.equal("limit", i, x.limit(4, i));
            }
            for (int i = 5; i >= 1; i--) {
                Checks.equal("limit", i - 1, x.limit(4, i));
            }
        });
        Sentences.holds(RETURNS, "of that kind, not of another", () ->
                Checks.equal("limit", 1, full().limit(10, 30)));
        Sentences.holds(NO_KIND, "refused", () -> {
            SightLegend x = full();
            Checks.refusedAll(x, IndexOutOfBoundsException.class, a -> x.limit(a, 5), -1, 12, 13);
        });
        Sentences.holds(NO_KIND, "thrown before the other", () -> {
            SightLegend x = full();
            Checks.noIndex("a wrong limit too", x, () -> x.limit(12, 0));
            Checks.noIndex("a wrong limit too", x, () -> x.limit(-1, 10000));
        });
        Sentences.holds(NO_LIMIT, "refused", () -> {
            SightLegend x = new SightLegend();
            Checks.refusedAll(x, IllegalArgumentException.class, a -> x.limit(0, a), -1, 0, 10000);
        });
        Sentences.holds(NO_LIMIT, "thrown before the full kind", () -> {
            SightLegend x = full();
            Checks.refusedAll(x, IllegalArgumentException.class, a -> x.limit(11, a), -1, 0, 10000);
        });
        fullKind();
    }

    private static void adding() {
        Sentences.holds(ADDS, "as the first, between others and as the last", () -> {
            SightLegend x = full();
            Checks.kind(x, 11, 11, -1, 5, 10, 20, 30, 40, 50);
            Checks.kind(x, 10, 10, -1, 0, -1, -1, -1, -1, -1);
        });
        Sentences.holds(ADDS, "the first of five taken away", () -> taken(10, 20, 30, 40, 50));
        Sentences.holds(ADDS, "one in the middle taken away", () -> taken(30, 10, 20, 40, 50));
        Sentences.holds(ADDS, "the last of five taken away", () -> taken(50, 10, 20, 30, 40));
        Sentences.holds(ADDS, "the only one taken away", () -> {
            SightLegend x = new SightLegend();
            x.limit(0, 9999);
            x.limit(0, 9999);
            Checks.kind(x, 0, 0, -1, 0, -1, -1, -1, -1, -1);
        });
        Sentences.holds(ADDS, "the same limit of another kind is not taken away", () -> {
            SightLegend x = full();
            x.limit(10, 30);
            Checks.kind(x, 10, 10, -1, 1, 30, -1, -1, -1, -1);
            Checks.kind(x, 11, 11, -1, 5, 10, 20, 30, 40, 50);
        });
        Sentences.holds(ADDS, "undo of a limit added and of one taken away", () -> {
            SightLegend x = full();
            x.undo();
            x.undo();
            Checks.undone("limit added", x, 2, () -> x.limit(11, 15));
            Checks.undone("limit taken away", x, 2, () -> x.limit(11, 10));
            Checks.kind(x, 11, 11, -1, 3, 10, 30, 50, -1, -1);
        });
    }

    private static void taken(int limit, int... left) {
        SightLegend x = full();
        x.limit(11, limit);
        Checks.kind(x, 11, 11, -1, 4, left[0], left[1], left[2], left[3], -1);
    }

    private static void fullKind() {
        Sentences.holds(FULL, "four limits: taken", () -> {
            SightLegend x = full();
            x.limit(11, 20);
            Checks.equal("limit", 5, x.limit(11, 9999));
        });
        Sentences.holds(FULL, "full: a sixth limit is refused", () -> {
            SightLegend x = full();
            Checks.refusedAll(x, IllegalStateException.class, a -> x.limit(11, a), 1, 9, 11, 31, 51, 9999);
            Checks.kind(x, 11, 11, -1, 5, 10, 20, 30, 40, 50);
        });
        Sentences.holds(FULL, "full: one of the five is no other limit", () -> {
            for (int limit = 10; limit <= 50; limit += 10) {
                Checks.equal("limit", 4, full().limit(11, limit));
            }
        });
        Sentences.holds(FULL, "a full kind leaves the others as they are", () ->
                Checks.equal("limit of another kind", 1, full().limit(0, 9)));
    }
}
