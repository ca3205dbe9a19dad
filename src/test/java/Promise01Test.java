/** A new object: no signs, the initial kinds, window and settings. */
public final class Promise01Test {
    public static void main(String[] args) {
        SightLegend x = new SightLegend();
        Checks.equal("NONE", -1, SightLegend.NONE);
        int[] values = {3, 1, 20, 5, 0, 0, 100, 100, 5, 0, 0, 0};
        for (int what = 0; what < values.length; what++) {
            Checks.equal("value(" + what + ")", values[what], x.value(what));
        }
        for (int kind = 0; kind < 12; kind++) {
            int[] facts = {kind, -1, 0, -1, -1, -1, -1, -1, 0, 0};
            for (int what = 0; what < facts.length; what++) {
                Checks.equal("kind(" + kind + ", " + what + ")", facts[what], x.kind(kind, what));
            }
        }
        Checks.equal("lines()", 0, x.lines());
        Checks.equal("firstLines()", 0, x.firstLines());
        Checks.box(x, -1, -1, -1, -1, -1, -1);
        Checks.rounds(x, 2, 1, 0);
        Checks.equal("explained()", 1.0, x.explained());
        Checks.equal("the digest", Checks.digestOf(x, 0, 0, 0, 0, 0, 0, 0), x.digest());
        Checks.noState("undo of a new object", x, x::undo);
        Checks.noIndex("a sign of a new object", x, () -> x.sign(0, 0));
        Checks.equal("clearText()", 0, x.clearText());
        for (int group = 0; group < 5; group++) {
            Checks.equal("the first way", 0, x.setWay(group, 1));
        }
        Checks.equal("the way of another object", 0, new SightLegend().setWay(0, 0));
        Checks.end();
    }
}
