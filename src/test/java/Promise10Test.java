/** value. */
public final class Promise10Test {
    public static void main(String[] args) {
        SightLegend x = new SightLegend();
        Checks.noArgument("value(-1)", x, () -> x.value(-1));
        Checks.noArgument("value(12)", x, () -> x.value(12));
        Checks.noArgument("value of the largest number", x, () -> x.value(Integer.MAX_VALUE));
        // each corner is covered by a box of 4 columns and 3 rows; the first one is chosen
        x.set(2, 4);
        x.set(3, 3);
        x.set(0, 2);
        x.set(1, 4);
        x.setWindow(10, 20, 30, 40, 4);
        x.addSign(5, 10, 20, 0, 0);
        x.addSign(5, 39, 20, 0, 1);
        x.addSign(5, 10, 59, 0, 2);
        x.addSign(5, 39, 59, 0, 4);
        x.addSign(5, 25, 40, 0, 5);
        x.addSign(5, 40, 40, 0, 0);
        int[] want = {2, 4, 4, 3, 10, 20, 30, 40, 4, 6, 4, 3};
        for (int what = 0; what < want.length; what++) {
            Checks.equal("value(" + what + ")", want[what], x.value(what));
        }
        Checks.end();
    }
}
