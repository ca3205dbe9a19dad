/** zoomFor. */
public final class Promise21Test {
    public static void main(String[] args) {
        SightLegend x = new SightLegend();
        Checks.noIndex("kind -1", x, () -> x.zoomFor(-1));
        Checks.noIndex("kind 12", x, () -> x.zoomFor(12));
        Checks.equal("without signs", 0, x.zoomFor(11));
        x.setWindow(10, 10, 20, 20, 1);
        x.addSign(4, 10, 10, 0, 2);
        x.addSign(4, 29, 29, 0, 3);
        x.addSign(4, 15, 15, 0, 1);
        x.addSign(4, 30, 15, 0, 4);
        x.addSign(4, 15, 9, 0, 5);
        x.addSign(5, 15, 15, 0, 5);
        x.addSign(6, 9, 15, 0, 5);
        x.addSign(7, 15, 15, 0, 0);
        long before = x.digest();
        Checks.equal("the highest level in the window, beyond the zoom too", 3, x.zoomFor(4));
        Checks.equal("the largest zoom", 5, x.zoomFor(5));
        Checks.equal("none in the window", 0, x.zoomFor(6));
        Checks.equal("level 0", 0, x.zoomFor(7));
        Checks.equal("nothing has changed", before, x.digest());
        x.setWindow(10, 9, 20, 20, 5);
        Checks.equal("another window", 5, x.zoomFor(4));
        Checks.end();
    }
}
