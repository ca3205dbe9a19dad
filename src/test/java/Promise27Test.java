/** digest. */
public final class Promise27Test {
    public static void main(String[] args) {
        SightLegend x = new SightLegend();
        Checks.equal("a new object", Checks.digestOf(x, 0, 0, 0, 0, 0, 0, 0), x.digest());
        Checks.equal("twice", x.digest(), x.digest());
        x.append(49);
        x.append(50);
        Checks.equal("with a text", Checks.digestOf(x, 2, 0, 0, 0, 0, 0, 0), x.digest());
        x.setWay(1, 1);
        Checks.equal("with a way", Checks.digestOf(x, 2, 1, 0, 1, 0, 0, 0), x.digest());

        SightLegend y = new SightLegend();
        y.setWay(4, 1);
        y.setKind(2, 9, 4);
        y.setKind(3, 8, 4);
        y.setKind(5, 0, 0);
        y.setKind(6, 0, 0);
        y.limit(5, 10);
        y.addSign(2, 50, 50, 1, 0);
        y.addSign(3, 0, 0, 1, 0);
        y.addSign(5, 99, 0, 10, 3);
        y.addSign(6, 60, 60, 20, 5);
        Checks.equal("with signs and lines", Checks.digestOf(y, 0, 4, 0, 0, 0, 0, 1), y.digest());
        Checks.end();
    }
}
