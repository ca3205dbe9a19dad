/** setWay, and when a group is a joined line. */
public final class Promise08Test {
    public static void main(String[] args) {
        SightLegend x = new SightLegend();
        Checks.noIndex("group -1", x, () -> x.setWay(-1, 0));
        Checks.noIndex("the group goes first", x, () -> x.setWay(5, 2));
        Checks.noArgument("way -1", x, () -> x.setWay(0, -1));
        Checks.noArgument("way 2", x, () -> x.setWay(4, 2));
        Checks.equal("setWay(4, 1)", 0, x.setWay(4, 1));
        Checks.equal("setWay(4, 1) again", 1, x.setWay(4, 1));
        Checks.equal("setWay(0, 0)", 0, x.setWay(0, 0));
        Checks.equal("setWay(4, 0)", 1, x.setWay(4, 0));
        Checks.equal("undo", 3, x.undo());
        Checks.equal("the way behind undo", 1, x.setWay(4, 1));

        x.setKind(1, 1, 4);
        x.setKind(2, 2, 4);
        x.setKind(3, 3, 4);
        x.addSign(1, 50, 50, 0, 0);
        Checks.equal("one kind of three", 1, x.lines());
        Checks.line(x, 0, 0, 1, 4, 0, 0, 1);
        x.addSign(2, 50, 51, 0, 0);
        Checks.equal("two kinds of three have a heading", 3, x.lines());
        Checks.line(x, 0, 1, -1, 4, -1, -1, 0);
        x.addSign(3, 50, 52, 0, 0);
        x.addSign(3, 50, 53, 0, 0);
        Checks.equal("three kinds of three are joined", 1, x.lines());
        Checks.line(x, 0, 2, -1, 4, -1, -1, 4);
        x.setWay(4, 0);
        Checks.equal("not with way 0", 4, x.lines());
        x.setWay(4, 1);
        x.setKind(1, 1, SightLegend.NONE);
        x.setKind(2, 2, SightLegend.NONE);
        Checks.equal("a group of a single kind is not joined", 3, x.lines());
        Checks.line(x, 2, 0, 3, 4, 0, 0, 2);
        Checks.end();
    }
}
