/** removeSign. */
public final class Promise03Test {
    public static void main(String[] args) {
        SightLegend x = new SightLegend();
        Checks.noIndex("no sign at all", x, () -> x.removeSign(0));
        x.addSign(1, 11, 21, 31, 1);
        x.addSign(2, 12, 22, 32, 2);
        x.addSign(3, 13, 23, 33, 3);
        Checks.noIndex("sign -1", x, () -> x.removeSign(-1));
        Checks.noIndex("sign 3", x, () -> x.removeSign(3));
        Checks.noIndex("the largest number", x, () -> x.removeSign(Integer.MAX_VALUE));
        Checks.equal("removeSign(1)", 2, x.removeSign(1));
        int[][] left = {{1, 11, 21, 31, 1}, {3, 13, 23, 33, 3}};
        for (int sign = 0; sign < 2; sign++) {
            for (int what = 0; what < 5; what++) {
                Checks.equal("sign(" + sign + ", " + what + ")", left[sign][what], x.sign(sign, what));
            }
        }
        Checks.equal("removeSign of the last one", 1, x.removeSign(1));
        Checks.equal("removeSign of the first one", 0, x.removeSign(0));
        Checks.equal("lines()", 0, x.lines());
        Checks.equal("undo", 3, x.undo());
        Checks.equal("undo", 2, x.undo());
        Checks.equal("undo", 1, x.undo());
        Checks.equal("the signs behind undo", 3, x.value(9));
        Checks.equal("the middle sign is back", 2, x.sign(1, 0));
        Checks.equal("its row too", 22, x.sign(1, 2));

        for (int i = 3; i < 40; i++) {
            x.addSign(0, i, i, i, 0);
        }
        Checks.equal("removeSign(0) of a full map", 39, x.removeSign(0));
        Checks.equal("the last one has moved up", 39, x.sign(38, 1));
        Checks.noIndex("its old number is free", x, () -> x.removeSign(39));
        Checks.end();
    }
}
