/** bestColumns. */
public final class Promise20Test {
    public static void main(String[] args) {
        SightLegend x = new SightLegend();
        Checks.equal("without signs", 1, x.bestColumns());
        x.set(1, 3);
        Checks.equal("without signs and with three columns", 1, x.bestColumns());
        x.set(1, 1);
        x.set(3, 20);
        x.addSign(0, 0, 90, 0, 0);
        x.addSign(1, 99, 90, 0, 0);
        x.addSign(2, 50, 50, 0, 0);
        x.addSign(3, 50, 60, 0, 0);
        x.addSign(4, 50, 70, 0, 0);
        long before = x.digest();
        Checks.equal("five lines fit in two columns", 2, x.bestColumns());
        Checks.equal("nothing has changed", before, x.digest());
        Checks.equal("explained with one", 4, x.value(11));
        x.set(1, 2);
        Checks.equal("explained with two", 5, x.value(11));
        Checks.equal("of several the smallest", 2, x.bestColumns());

        SightLegend four = new SightLegend();
        four.set(2, 5);
        four.set(3, 20);
        four.addSign(0, 0, 50, 0, 0);
        four.addSign(1, 99, 50, 0, 0);
        for (int kind = 2; kind < 8; kind++) {
            four.addSign(kind, 50, 50, 0, 0);
        }
        Checks.equal("two columns and two rows of them", 4, four.bestColumns());
        four.set(3, 10);
        Checks.equal("two columns are enough then", 2, four.bestColumns());
        four.set(3, 5);
        Checks.equal("one column is enough then", 1, four.bestColumns());
        Checks.end();
    }
}
