/** setKind, and the order of lines by ranks. */
public final class Promise07Test {
    public static void main(String[] args) {
        SightLegend x = new SightLegend();
        Checks.noIndex("kind -1", x, () -> x.setKind(-1, 0, 0));
        Checks.noIndex("the kind goes first", x, () -> x.setKind(12, 100, 5));
        Checks.noArgument("rank -1", x, () -> x.setKind(0, -1, 0));
        Checks.noArgument("rank 100", x, () -> x.setKind(0, 100, 0));
        Checks.noArgument("group 5", x, () -> x.setKind(0, 0, 5));
        Checks.noArgument("group -2", x, () -> x.setKind(0, 0, -2));
        Checks.equal("setKind(7)", 7, x.setKind(7, 99, 4));
        Checks.equal("its rank", 99, x.kind(7, 0));
        Checks.equal("its group", 4, x.kind(7, 1));
        Checks.equal("setKind(7) again", 99, x.setKind(7, 0, SightLegend.NONE));
        Checks.equal("its group again", -1, x.kind(7, 1));
        Checks.equal("the group behind undo", 1, x.undo());
        Checks.equal("its group is back", 4, x.kind(7, 1));
        Checks.equal("its rank is back", 99, x.kind(7, 0));

        x.addSign(7, 50, 50, 0, 0);
        x.addSign(8, 50, 51, 0, 0);
        x.addSign(2, 50, 52, 0, 0);
        int[] order = {2, 8, 7};
        for (int i = 0; i < 3; i++) {
            Checks.equal("the kind of line " + i, order[i], x.line(i, 1));
        }
        x.setKind(2, 50, SightLegend.NONE);
        x.setKind(7, 50, SightLegend.NONE);
        x.setKind(8, 49, SightLegend.NONE);
        int[] then = {8, 2, 7};
        for (int i = 0; i < 3; i++) {
            Checks.equal("the kind of line " + i + " then", then[i], x.line(i, 1));
        }
        Checks.end();
    }
}
