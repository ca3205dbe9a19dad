/** Terms: the kinds, the signs, the window and the settings. */
final class TermsKindsEdges {
    private static final String KINDS = "There are 12 kinds, 0 to 11.";
    private static final String RANK = "A kind has a rank, 0 to 99, initially its number";
    private static final String GROUP = "a group, 0 to 4, or NONE (initially)";
    private static final String LIMITS =
            "at most 5 limits, in ascending order, all different, 1 to 9999 (initially none)";
    private static final String CLASSES = "A kind with n limits has the classes 0 to n: "
            + "a value is in the class that is the number of limits that are at most the value.";
    private static final String WAY = "A group has a way, 0 or 1, initially 0.";
    private static final Class<?> NO_INDEX = IndexOutOfBoundsException.class;
    private static final Class<?> NO_ARGUMENT = IllegalArgumentException.class;

    private TermsKindsEdges() {
    }

    static void tests() {
        Sentences.of("Terms");
        kinds();
        limits();
        classes();
        Sentences.range(WAY, 0, 1, NO_ARGUMENT, SightLegend::new, (x, a) -> x.setWay(0, a), x -> x.setWay(0, 0));
        Sentences.holds(WAY, "initially 0, of every group", () -> {
            for (int group = 0; group < 5; group++) {
                Checks.equal("the way", 0, new SightLegend().setWay(group, 0));
            }
        });
    }

    private static void kinds() {
        Sentences.range(KINDS, 0, 11, NO_INDEX, SightLegend::new, (x, a) -> x.addSign(a, 1, 1, 1, 1));
        Sentences.range(KINDS, 0, 11, NO_INDEX, SightLegend::new, (x, a) -> x.setKind(a, 1, 1));
        Sentences.range(KINDS, 0, 11, NO_INDEX, SightLegend::new, (x, a) -> x.limit(a, 1));
        Sentences.range(KINDS, 0, 11, NO_INDEX, SightLegend::new, (x, a) -> x.kind(a, 1));
        Sentences.range(KINDS, 0, 11, NO_INDEX, SightLegend::new, SightLegend::zoomFor);
        Sentences.holds(KINDS, "all twelve at once", () -> {
            SightLegend x = Promise02Edges.withSigns(12);
            Checks.equal("lines()", 12, x.lines());
            for (int kind = 0; kind < 12; kind++) {
                Checks.equal("line(" + kind + ", 1)", kind, x.line(kind, 1));
            }
        });
        Sentences.range(RANK, 0, 99, NO_ARGUMENT, SightLegend::new, (x, a) -> x.setKind(5, a, 1), x -> x.kind(5, 0));
        Sentences.holds(RANK, "initially its number, of every kind", () -> {
            for (int kind = 0; kind < 12; kind++) {
                Checks.equal("kind(" + kind + ", 0)", kind, new SightLegend().kind(kind, 0));
            }
        });
        Sentences.range(GROUP, -1, 4, NO_ARGUMENT, SightLegend::new, (x, a) -> x.setKind(5, 1, a), x -> x.kind(5, 1));
        Sentences.holds(GROUP, "initially NONE, of every kind", () -> {
            for (int kind = 0; kind < 12; kind++) {
                Checks.equal("kind(" + kind + ", 1)", SightLegend.NONE, new SightLegend().kind(kind, 1));
            }
        });
    }

    private static void limits() {
        Sentences.range(LIMITS, 1, 9999, NO_ARGUMENT, SightLegend::new, (x, a) -> x.limit(5, a), x -> x.kind(5, 3));
        Sentences.holds(LIMITS, "initially none, of every kind", () -> {
            for (int kind = 0; kind < 12; kind++) {
                Checks.equal("kind(" + kind + ", 2)", 0, new SightLegend().kind(kind, 2));
            }
        });
        Sentences.holds(LIMITS, "at most 5: a sixth is refused", () -> {
            SightLegend x = Promise09Edges.full();
            Checks.noState("limit(11, 60)", x, () -> x.limit(11, 60));
            Checks.equal("kind(11, 2)", 5, x.kind(11, 2));
        });
        Sentences.holds(LIMITS, "5 of every kind", () -> {
            SightLegend x = new SightLegend();
            for (int kind = 0; kind < 12; kind++) {
                for (int i = 1; i <= 5; i++) {
                    Checks.equal("limit", i, x.limit(kind, 100 * kind + i));
                }
            }
            for (int kind = 0; kind < 12; kind++) {
                int first = 100 * kind + 1;
                Checks.kind(x, kind, kind, -1, 5, first, first + 1, first + 2, first + 3, first + 4);
            }
        });
        Sentences.holds(LIMITS, "in ascending order, whatever order they come in", () -> {
            int[][] orders = {{1, 2, 3, 4, 9999}, {9999, 4, 3, 2, 1}, {3, 9999, 1, 4, 2}, {4, 3, 9999, 2, 1}};
            for (int[] order : orders) {
                SightLegend x = new SightLegend();
                for (int limit : order) {
                    x.limit(0, limit);
                }
                Checks.kind(x, 0, 0, -1, 5, 1, 2, 3, 4, 9999);
            }
        });
        Sentences.holds(LIMITS, "all different: the same one again is taken away", () -> {
            SightLegend x = new SightLegend();
            x.limit(0, 7);
            x.limit(0, 8);
            Checks.equal("limit(0, 7) again", 1, x.limit(0, 7));
            Checks.kind(x, 0, 0, -1, 1, 8, -1, -1, -1, -1);
        });
    }

    private static void classes() {
        Sentences.holds(CLASSES, "without limits 0, of the smallest and of the largest value", () -> {
            SightLegend x = new SightLegend();
            x.addSign(3, 1, 1, 0, 0);
            x.addSign(3, 1, 1, 9999, 0);
            Checks.equal("sign(0, 5)", 0, x.sign(0, 5));
            Checks.equal("sign(1, 5)", 0, x.sign(1, 5));
        });
        Sentences.holds(CLASSES, "just below a limit, at it and just above", () -> {
            SightLegend x = Promise09Edges.full();
            for (int limit = 1; limit <= 5; limit++) {
                int sign = x.addSign(11, 1, 1, 10 * limit - 1, 0);
                x.addSign(11, 1, 1, 10 * limit, 0);
                x.addSign(11, 1, 1, 10 * limit + 1, 0);
                Checks.equal("below limit " + limit, limit - 1, x.sign(sign, 5));
                Checks.equal("at limit " + limit, limit, x.sign(sign + 1, 5));
                Checks.equal("above limit " + limit, limit, x.sign(sign + 2, 5));
            }
        });
        Sentences.holds(CLASSES, "at the smallest and at the largest limit", () -> {
            SightLegend x = new SightLegend();
            x.limit(0, 1);
            x.limit(0, 9999);
            int[] values = {0, 1, 9998, 9999};
            int[] want = {0, 1, 1, 2};
            for (int i = 0; i < 4; i++) {
                x.addSign(0, 1, 1, values[i], 0);
                Checks.equal("the class of " + values[i], want[i], x.sign(i, 5));
            }
        });
        Sentences.holds(CLASSES, "of its own kind's limits alone", () -> {
            SightLegend x = Promise09Edges.full();
            x.limit(10, 5);
            x.addSign(10, 1, 1, 60, 0);
            x.addSign(9, 1, 1, 60, 0);
            x.addSign(11, 1, 1, 60, 0);
            Checks.equal("sign(0, 5)", 1, x.sign(0, 5));
            Checks.equal("sign(1, 5)", 0, x.sign(1, 5));
            Checks.equal("sign(2, 5)", 5, x.sign(2, 5));
        });
        Sentences.holds(CLASSES, "another class with a limit more, and with one less", () -> {
            SightLegend x = new SightLegend();
            x.addSign(0, 1, 1, 50, 0);
            x.limit(0, 50);
            Checks.equal("with one limit", 1, x.sign(0, 5));
            x.limit(0, 51);
            Checks.equal("with a limit above it", 1, x.sign(0, 5));
            x.limit(0, 50);
            Checks.equal("with that one alone", 0, x.sign(0, 5));
        });
    }
}
