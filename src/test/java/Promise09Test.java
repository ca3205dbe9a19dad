/** limit, and the classes of signs. */
public final class Promise09Test {
    private static void limits(SightLegend x, int... want) {
        for (int i = 0; i < 5; i++) {
            Checks.equal("limit " + i, i < want.length ? want[i] : -1, x.kind(3, 3 + i));
        }
        Checks.equal("the number of limits", want.length, x.kind(3, 2));
    }

    public static void main(String[] args) {
        SightLegend x = new SightLegend();
        Checks.noIndex("kind -1", x, () -> x.limit(-1, 1));
        Checks.noIndex("the kind goes first", x, () -> x.limit(12, 0));
        Checks.noArgument("limit 0", x, () -> x.limit(0, 0));
        Checks.noArgument("limit 10000", x, () -> x.limit(0, 10000));
        Checks.equal("the first limit", 1, x.limit(3, 500));
        Checks.equal("the second limit", 2, x.limit(3, 9999));
        Checks.equal("the third limit", 3, x.limit(3, 1));
        Checks.equal("the fourth limit", 4, x.limit(3, 499));
        Checks.equal("the fifth limit", 5, x.limit(3, 501));
        limits(x, 1, 499, 500, 501, 9999);
        Checks.noState("a sixth limit", x, () -> x.limit(3, 2));
        Checks.noArgument("a sixth limit out of range", x, () -> x.limit(3, 10000));
        Checks.equal("another kind has none", 0, x.kind(4, 2));

        int[][] classes = {{0, 0}, {1, 1}, {498, 1}, {499, 2}, {500, 3}, {501, 4}, {9998, 4}, {9999, 5}};
        for (int i = 0; i < classes.length; i++) {
            x.addSign(3, 50, 50, classes[i][0], 0);
            Checks.equal("the class of value " + classes[i][0], classes[i][1], x.sign(i, 5));
        }
        Checks.equal("a limit taken away", 4, x.limit(3, 500));
        limits(x, 1, 499, 501, 9999);
        Checks.equal("the class of 9999 then", 4, x.sign(7, 5));
        Checks.equal("the first one taken away", 3, x.limit(3, 1));
        Checks.equal("the last one taken away", 2, x.limit(3, 9999));
        limits(x, 499, 501);
        Checks.equal("undo", 3, x.undo());
        limits(x, 499, 501, 9999);
        Checks.equal("undo", 2, x.undo());
        Checks.equal("undo", 1, x.undo());
        limits(x, 1, 499, 500, 501, 9999);
        Checks.equal("the largest limit taken away", 4, x.limit(3, 9999));
        Checks.equal("and added again", 5, x.limit(3, 9999));
        limits(x, 1, 499, 500, 501, 9999);
        Checks.end();
    }
}
