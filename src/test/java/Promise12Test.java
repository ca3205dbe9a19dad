/** kind. */
public final class Promise12Test {
    private static void kind(SightLegend x, int kind, int... want) {
        for (int what = 0; what < 10; what++) {
            Checks.equal("kind(" + kind + ", " + what + ")", want[what], x.kind(kind, what));
        }
    }

    /** The first kind, whose lines are the first ones. */
    private static void first() {
        SightLegend x = new SightLegend();
        x.limit(0, 1);
        x.addSign(0, 50, 50, 0, 0);
        x.addSign(0, 50, 50, 1, 0);
        x.addSign(0, 50, 50, 1, 0);
        x.addSign(11, 50, 50, 0, 0);
        kind(x, 0, 0, -1, 1, 1, -1, -1, -1, -1, 2, 3);
        kind(x, 11, 11, -1, 0, -1, -1, -1, -1, -1, 1, 1);
        x.removeSign(3);
        kind(x, 0, 0, -1, 1, 1, -1, -1, -1, -1, 2, 3);
        kind(x, 11, 11, -1, 0, -1, -1, -1, -1, -1, 0, 0);
        x.setWindow(60, 60, 10, 10, 5);
        kind(x, 0, 0, -1, 1, 1, -1, -1, -1, -1, 0, 0);
    }

    public static void main(String[] args) {
        SightLegend x = new SightLegend();
        Checks.noIndex("kind -1", x, () -> x.kind(-1, 0));
        Checks.noIndex("the kind goes first", x, () -> x.kind(12, 10));
        Checks.noArgument("what -1", x, () -> x.kind(11, -1));
        Checks.noArgument("what 10", x, () -> x.kind(0, 10));
        x.setKind(2, 33, 1);
        x.setKind(3, 44, 1);
        x.limit(2, 20);
        x.limit(2, 10);
        x.set(2, 4);
        x.set(3, 3);
        x.addSign(2, 50, 50, 9, 0);
        x.addSign(2, 50, 51, 10, 0);
        x.addSign(2, 50, 52, 19, 0);
        x.addSign(2, 150, 52, 20, 0);
        x.addSign(3, 50, 53, 0, 0);
        kind(x, 2, 33, 1, 2, 10, 20, -1, -1, -1, 2, 3);
        kind(x, 3, 44, 1, 0, -1, -1, -1, -1, -1, 1, 1);
        kind(x, 4, 4, -1, 0, -1, -1, -1, -1, -1, 0, 0);
        x.setWay(1, 1);
        kind(x, 2, 33, 1, 2, 10, 20, -1, -1, -1, 0, 3);
        kind(x, 3, 44, 1, 0, -1, -1, -1, -1, -1, 0, 1);
        // a sign in each corner: the one in the first is shown, but not explained
        x.setWay(1, 0);
        x.addSign(3, 0, 0, 0, 0);
        x.addSign(3, 99, 0, 0, 0);
        x.addSign(3, 0, 99, 0, 0);
        x.addSign(3, 99, 99, 0, 0);
        kind(x, 3, 44, 1, 0, -1, -1, -1, -1, -1, 1, 4);
        first();
        Checks.end();
    }
}
