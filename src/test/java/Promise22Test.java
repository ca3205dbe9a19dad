/** linesSaved. */
public final class Promise22Test {
    public static void main(String[] args) {
        SightLegend x = new SightLegend();
        Checks.noIndex("no sign at all", x, () -> x.linesSaved(0));
        x.set(2, 2);
        x.set(3, 2);
        x.addSign(0, 50, 50, 0, 0);
        x.addSign(1, 50, 50, 0, 0);
        x.addSign(1, 50, 51, 0, 0);
        x.addSign(2, 150, 50, 0, 0);
        x.addSign(3, 50, 50, 0, 0);
        x.addSign(4, 50, 50, 0, 0);
        x.addSign(5, 50, 50, 0, 0);
        Checks.noIndex("sign -1", x, () -> x.linesSaved(-1));
        Checks.noIndex("sign 7", x, () -> x.linesSaved(7));
        long before = x.digest();
        Checks.equal("the only sign of a kind", 1, x.linesSaved(0));
        Checks.equal("one of two signs of a line", 0, x.linesSaved(2));
        Checks.equal("a sign that is not shown", 0, x.linesSaved(3));
        Checks.equal("the last sign", 1, x.linesSaved(6));
        Checks.equal("nothing has changed", before, x.digest());
        x.setKind(4, 4, 0);
        x.setKind(5, 5, 0);
        Checks.equal("the line and the heading", 2, x.linesSaved(5));
        x.setWay(0, 1);
        Checks.equal("a joined line of two", 0, x.linesSaved(5));
        x.setKind(3, 3, 0);
        Checks.equal("a joined line of three", -2, x.linesSaved(5));
        Checks.equal("the map has all its signs", 7, x.value(9));

        // a box that covered all goes by turns; without the sign it does not cover all
        SightLegend turns = new SightLegend();
        turns.setWindow(0, 0, 10, 10, 5);
        turns.set(2, 10);
        turns.set(3, 5);
        turns.addSign(0, 5, 2, 0, 0);
        turns.addSign(1, 5, 7, 0, 0);
        Checks.equal("lines with both", 0, turns.lines());
        Checks.equal("without the first", -1, turns.linesSaved(0));
        Checks.end();
    }
}
