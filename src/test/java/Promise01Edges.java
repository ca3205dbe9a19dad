/** Promise 1: a new object. */
final class Promise01Edges {
    private static final String NEW =
            "`SightLegend()`: Creates a map without signs, with the initial kinds, window and settings.";

    private Promise01Edges() {
    }

    static void tests() {
        Sentences.of("Promise 1");
        Sentences.holds(NEW, "empty: no signs", Promise01Edges::noSigns);
        Sentences.holds(NEW, "empty: no lines and no box", Promise01Edges::noLines);
        Sentences.holds(NEW, "empty: no text", () -> {
            Checks.equal("clearText()", 0, new SightLegend().clearText());
            Checks.equal("parse()", 0, new SightLegend().parse());
        });
        Sentences.holds(NEW, "empty: no saved state", () -> {
            SightLegend x = new SightLegend();
            Checks.noState("undo()", x, x::undo);
        });
        Sentences.holds(NEW, "the initial kinds", Promise01Edges::kinds);
        Sentences.holds(NEW, "the initial ways of the groups", Promise01Edges::ways);
        Sentences.holds(NEW, "the initial window", () -> Checks.values(new SightLegend(), 4, 0, 0, 100, 100, 5));
        Sentences.holds(NEW, "the initial settings", () -> Checks.values(new SightLegend(), 0, 3, 1, 20, 5));
        Sentences.holds(NEW, "what another object has does not show", Promise01Edges::another);
    }

    private static void noSigns() {
        SightLegend x = new SightLegend();
        Checks.values(x, 9, 0, 0, 0);
        Checks.noIndex("sign(0, 0)", x, () -> x.sign(0, 0));
        for (int kind = 0; kind < 12; kind++) {
            Checks.equal("zoomFor", 0, x.zoomFor(kind));
        }
    }

    private static void noLines() {
        SightLegend x = new SightLegend();
        Checks.equal("lines()", 0, x.lines());
        Checks.equal("firstLines()", 0, x.firstLines());
        Checks.noIndex("line(0, 0)", x, () -> x.line(0, 0));
        Checks.box(x, -1, -1, -1, -1, -1, -1);
        Checks.rounds(x, 2, 1, 0);
        Checks.equal("explained()", 1.0, x.explained());
        Checks.equal("linesAt(0, 0)", 0, x.linesAt(0, 0));
        Checks.equal("bestColumns()", 1, x.bestColumns());
    }

    private static void kinds() {
        SightLegend x = new SightLegend();
        for (int kind = 0; kind < 12; kind++) {
            Checks.kind(x, kind, kind, -1, 0, -1, -1, -1, -1, -1, 0, 0);
        }
    }

    private static void ways() {
        for (int group = 0; group < 5; group++) {
            Checks.equal("the way of group " + group, 0, new SightLegend().setWay(group, 1));
        }
    }

    private static void another() {
        SightLegend first = new SightLegend();
        long digest = first.digest();
        first.addSign(3, 50, 50, 5, 0);
        first.setKind(3, 7, 2);
        first.limit(3, 5);
        first.setWay(2, 1);
        first.set(1, 4);
        first.setWindow(1, 2, 30, 40, 3);
        first.append(48);
        SightLegend second = new SightLegend();
        Checks.equal("the digest of a second object", digest, second.digest());
        second.addSign(1, 1, 1, 1, 1);
        Checks.equal("the signs of the first one", 1, first.value(9));
        Checks.equal("its sign", 3, first.sign(0, 0));
    }
}
