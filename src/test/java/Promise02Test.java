/** addSign. */
public final class Promise02Test {
    public static void main(String[] args) {
        SightLegend x = new SightLegend();
        Checks.noIndex("kind -1", x, () -> x.addSign(-1, 0, 0, 0, 0));
        Checks.noIndex("kind 12", x, () -> x.addSign(12, 0, 0, 0, 0));
        Checks.noIndex("the kind goes first", x, () -> x.addSign(12, 200, -1, 10000, 6));
        int[][] wrong = {
            {-1, 0, 0, 0}, {200, 0, 0, 0}, {0, -1, 0, 0}, {0, 200, 0, 0}, {0, 0, -1, 0},
            {0, 0, 10000, 0}, {0, 0, 0, -1}, {0, 0, 0, 6}, {Integer.MIN_VALUE, 0, 0, 0},
            {0, Integer.MAX_VALUE, 0, 0}, {0, 0, Integer.MAX_VALUE, 0}, {0, 0, 0, Integer.MIN_VALUE},
        };
        for (int[] a : wrong) {
            Checks.noArgument("a wrong argument", x, () -> x.addSign(0, a[0], a[1], a[2], a[3]));
        }
        Checks.noState("a call that throws saves nothing", x, x::undo);

        Checks.equal("the first sign", 0, x.addSign(0, 0, 0, 0, 0));
        Checks.equal("the second sign", 1, x.addSign(11, 199, 198, 9999, 5));
        int[] facts = {11, 199, 198, 9999, 5};
        for (int what = 0; what < facts.length; what++) {
            Checks.equal("sign(0, " + what + ")", 0, x.sign(0, what));
            Checks.equal("sign(1, " + what + ")", facts[what], x.sign(1, what));
        }
        Checks.equal("undo", 1, x.undo());
        Checks.equal("the signs behind undo", 1, x.value(9));

        for (int i = 1; i < 40; i++) {
            Checks.equal("sign " + i, i, x.addSign(i % 12, i, i, i, i % 6));
        }
        Checks.noState("a full map", x, () -> x.addSign(0, 0, 0, 0, 0));
        Checks.noArgument("a full map and a wrong level", x, () -> x.addSign(0, 0, 0, 0, 6));
        Checks.noIndex("a full map and a wrong kind", x, () -> x.addSign(12, 0, 0, 0, 6));
        Checks.equal("the signs of a full map", 40, x.value(9));
        Checks.equal("undo of the last sign", 3, x.undo());
        Checks.equal("the last sign again", 39, x.addSign(0, 0, 0, 0, 0));
        Checks.end();
    }
}
