/** Promise 8: setWay. */
final class Promise08Edges {
    private static final String SETS = "Sets the way of a group. Undoable.";
    private static final String RETURNS = "Returns the previous way.";
    private static final String NO_GROUP = "Throws `IndexOutOfBoundsException` if there is no such group";
    private static final String NO_WAY = "Throws `IllegalArgumentException` if way is out of range";

    private Promise08Edges() {
    }

    static void tests() {
        Sentences.of("Promise 8");
        Sentences.range("`group`: 0 to 4", 0, 4, IndexOutOfBoundsException.class, SightLegend::new,
                (x, a) -> x.setWay(a, 1));
        Sentences.range("`way`: 0 or 1", 0, 1, IllegalArgumentException.class, SightLegend::new,
                (x, a) -> x.setWay(3, a), x -> x.setWay(3, 0));
        Sentences.holds(SETS, "of the first and of the last group alone", () -> {
            SightLegend x = new SightLegend();
            x.setWay(0, 1);
            Checks.equal("the digest", Checks.digestOf(x, 0, 1, 1, 0, 0, 0, 0), x.digest());
            x.setWay(4, 1);
            Checks.equal("the digest", Checks.digestOf(x, 0, 2, 1, 0, 0, 0, 1), x.digest());
            x.setWay(0, 0);
            Checks.equal("the digest", Checks.digestOf(x, 0, 3, 0, 0, 0, 0, 1), x.digest());
        });
        Sentences.holds(SETS, "undo", () -> {
            SightLegend x = new SightLegend();
            Checks.undone("setWay(4, 1)", x, 0, () -> x.setWay(4, 1));
            x.setWay(4, 1);
            Checks.undone("setWay(4, 0)", x, 1, () -> x.setWay(4, 0));
            Checks.equal("the way behind undo", 1, x.setWay(4, 1));
        });
        Sentences.holds(SETS, "undo of the same way", () -> {
            SightLegend x = new SightLegend();
            Checks.undone("setWay(0, 0)", x, 0, () -> x.setWay(0, 0));
        });
        Sentences.holds(RETURNS, "0 and 1, of each group", () -> {
            for (int group = 0; group < 5; group++) {
                SightLegend x = new SightLegend();
                Checks.equal("setWay", 0, x.setWay(group, 1));
                Checks.equal("setWay", 1, x.setWay(group, 1));
                Checks.equal("setWay", 1, x.setWay(group, 0));
                Checks.equal("setWay", 0, x.setWay(group, 0));
            }
        });
        Sentences.holds(NO_GROUP, "refused; NONE is no group either", () -> {
            SightLegend x = new SightLegend();
            Checks.refusedAll(x, IndexOutOfBoundsException.class, a -> x.setWay(a, 1), SightLegend.NONE, 5, 6, 11);
        });
        Sentences.holds(NO_GROUP, "thrown before the other", () -> {
            SightLegend x = new SightLegend();
            Checks.noIndex("a wrong way too", x, () -> x.setWay(5, 2));
            Checks.noIndex("a wrong way too", x, () -> x.setWay(-1, -1));
        });
        Sentences.holds(NO_WAY, "refused", () -> {
            SightLegend x = new SightLegend();
            Checks.refusedAll(x, IllegalArgumentException.class, a -> x.setWay(4, a), -1, 2, 3);
            Checks.refusedAll(x, IllegalArgumentException.class, a -> x.setWay(0, a), -1, 2, 3);
        });
    }
}
