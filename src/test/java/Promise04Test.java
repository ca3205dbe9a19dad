/** moveSign. */
public final class Promise04Test {
    public static void main(String[] args) {
        SightLegend x = new SightLegend();
        Checks.noIndex("no sign at all", x, () -> x.moveSign(0, 0, 0));
        x.addSign(1, 11, 21, 31, 1);
        x.addSign(2, 150, 22, 32, 2);
        Checks.noIndex("sign -1", x, () -> x.moveSign(-1, 0, 0));
        Checks.noIndex("the sign goes first", x, () -> x.moveSign(2, 200, -1));
        Checks.noArgument("column -1", x, () -> x.moveSign(0, -1, 0));
        Checks.noArgument("column 200", x, () -> x.moveSign(0, 200, 0));
        Checks.noArgument("row -1", x, () -> x.moveSign(0, 0, -1));
        Checks.noArgument("row 200", x, () -> x.moveSign(0, 0, 200));
        Checks.equal("lines() before", 1, x.lines());
        Checks.equal("moveSign(1)", 150, x.moveSign(1, 50, 60));
        Checks.equal("lines() then", 2, x.lines());
        int[] facts = {2, 50, 60, 32, 2};
        for (int what = 0; what < 5; what++) {
            Checks.equal("sign(1, " + what + ")", facts[what], x.sign(1, what));
        }
        Checks.equal("the other stays", 11, x.sign(0, 1));
        Checks.equal("moveSign to the end", 11, x.moveSign(0, 199, 199));
        Checks.equal("moveSign to the start", 199, x.moveSign(0, 0, 0));
        Checks.equal("undo", 3, x.undo());
        Checks.equal("its column behind undo", 199, x.sign(0, 1));
        Checks.equal("its row behind undo", 199, x.sign(0, 2));
        Checks.end();
    }
}
