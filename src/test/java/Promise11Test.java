/** sign. */
public final class Promise11Test {
    private static void sign(SightLegend x, int sign, int... want) {
        for (int what = 0; what < 9; what++) {
            Checks.equal("sign(" + sign + ", " + what + ")", want[what], x.sign(sign, what));
        }
    }

    public static void main(String[] args) {
        SightLegend x = new SightLegend();
        Checks.noIndex("no sign at all", x, () -> x.sign(0, 0));
        x.set(2, 4);
        x.set(3, 3);
        x.limit(6, 100);
        x.setKind(2, 2, 1);
        x.setKind(3, 3, 1);
        x.setWay(1, 1);
        // the corners hold one sign each, so the box covers the first sign
        x.addSign(6, 0, 0, 99, 0);
        x.addSign(6, 99, 0, 99, 1);
        x.addSign(6, 0, 99, 100, 2);
        x.addSign(6, 99, 99, 101, 3);
        x.addSign(2, 50, 50, 7, 5);
        x.addSign(3, 51, 50, 8, 4);
        x.addSign(3, 100, 50, 9, 0);
        Checks.equal("lines()", 3, x.lines());
        sign(x, 0, 6, 0, 0, 99, 0, 0, 1, 0, -1);
        sign(x, 1, 6, 99, 0, 99, 1, 0, 1, 1, 1);
        sign(x, 2, 6, 0, 99, 100, 2, 1, 1, 1, 2);
        sign(x, 3, 6, 99, 99, 101, 3, 1, 1, 1, 2);
        sign(x, 4, 2, 50, 50, 7, 5, 0, 1, 1, 0);
        sign(x, 5, 3, 51, 50, 8, 4, 0, 1, 1, 0);
        sign(x, 6, 3, 100, 50, 9, 0, 0, 0, 0, -1);
        x.setWay(1, 0);
        Checks.equal("the heading explains none", 1, x.sign(4, 8));
        Checks.equal("nor the other kind's line", 2, x.sign(5, 8));
        x.set(0, 1);
        Checks.equal("the range 0 to 1", 3, x.sign(3, 8));
        Checks.noIndex("sign -1", x, () -> x.sign(-1, 0));
        Checks.noIndex("the sign goes first", x, () -> x.sign(7, 9));
        Checks.noArgument("what 9", x, () -> x.sign(6, 9));
        Checks.noArgument("what -1", x, () -> x.sign(0, -1));
        Checks.end();
    }
}
