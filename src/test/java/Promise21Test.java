/** zoomFor. */
public final class Promise21Test {
    public static void main(String[] args) {
        SightLegend x = new SightLegend();
        Checks.noIndex("kind -1", x, () -> x.zoomFor(-1));
        Checks.noIndex("kind 12", x, () -> x.zoomFor(12));
        Checks.equal("without signs", 0, x.zoomFor(11));
        x.setWindow(10, 10, 20, 20, 1);
        x.addSign(4, 10, 10, 0, 2);
        x.addSign(4, 29, 29, 0, 3);
        x.addSign(4, 15, 15, 0, 1);
        x.addSign(4, 30, 15, 0, 4);
        x.addSign(4, 15, 9, 0, 5);
        x.addSign(5, 15, 15, 0, 5);
        x.addSign(6, 9, 15, 0, 5);
        x.addSign(7, 15, 15, 0, 0);
        long before = x.digest();
        Checks.equal("the highest level in the window, beyond the zoom too", 3, x.zoomFor(4));
        Checks.equal("the largest zoom", 5, x.zoomFor(5));
        Checks.equal("none in the window", 0, x.zoomFor(6));
        Checks.equal("level 0", 0, x.zoomFor(7));
        Checks.equal("nothing has changed", before, x.digest());
        x.setWindow(10, 9, 20, 20, 5);
        Checks.equal("another window", 5, x.zoomFor(4));
        x.setWindow(0, 0, 10, 10, 0);
        x.addSign(8, 0, 0, 0, 5);
        Checks.equal("the last sign", 5, x.zoomFor(8));
        x.removeSign(8);
        Checks.equal("the last sign is removed", 0, x.zoomFor(8));

        SightLegend one = new SightLegend();
        one.addSign(0, 0, 0, 0, 4);
        Checks.equal("the first sign", 4, one.zoomFor(0));
        one.addSign(0, 0, 0, 0, 2);
        Checks.equal("the first sign of two", 4, one.zoomFor(0));
        Checks.end();
    }
}
