/** linesAt. */
public final class Promise19Test {
    public static void main(String[] args) {
        SightLegend x = new SightLegend();
        Checks.equal("without signs", 0, x.linesAt(0, 0));
        x.setWindow(0, 0, 50, 40, 3);
        x.set(2, 2);
        x.set(3, 2);
        x.addSign(0, 25, 25, 0, 0);
        x.addSign(1, 100, 25, 0, 3);
        x.addSign(2, 101, 25, 0, 4);
        x.addSign(3, 110, 60, 0, 0);
        x.addSign(4, 195, 195, 0, 0);
        Checks.noArgument("left -1", x, () -> x.linesAt(-1, 0));
        Checks.noArgument("left 200", x, () -> x.linesAt(200, 0));
        Checks.noArgument("top -1", x, () -> x.linesAt(0, -1));
        Checks.noArgument("top 200", x, () -> x.linesAt(0, 200));
        long before = x.digest();
        Checks.equal("the window as it is", 1, x.linesAt(0, 0));
        Checks.equal("a sign just within", 1, x.linesAt(51, 10));
        Checks.equal("the zoom stays", 1, x.linesAt(52, 0));
        Checks.equal("its last row too low", 1, x.linesAt(70, 20));
        Checks.equal("two signs", 2, x.linesAt(70, 21));
        Checks.equal("none", 0, x.linesAt(50, 100));
        Checks.equal("the last corner", 0, x.linesAt(199, 199));
        Checks.equal("near the last corner", 1, x.linesAt(190, 190));
        Checks.equal("nothing has changed", before, x.digest());
        // the lines of the last round, not of the first one
        x.set(2, 60);
        x.set(3, 20);
        x.setWindow(0, 0, 10, 10, 5);
        Checks.equal("all covered by turns", 0, x.linesAt(20, 20));
        Checks.end();
    }
}
