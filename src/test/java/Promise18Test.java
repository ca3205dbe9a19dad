/** explained. */
public final class Promise18Test {
    public static void main(String[] args) {
        SightLegend x = new SightLegend();
        Checks.equal("without signs", 1.0, x.explained());
        x.addSign(0, 150, 50, 0, 0);
        Checks.equal("without shown signs", 1.0, x.explained());
        x.addSign(0, 50, 50, 0, 0);
        Checks.equal("all of one", 1.0, x.explained());
        x.addSign(0, 0, 0, 0, 0);
        x.addSign(0, 99, 0, 0, 0);
        x.addSign(0, 0, 99, 0, 0);
        Checks.equal("all of four", 1.0, x.explained());
        x.addSign(0, 99, 99, 0, 0);
        Checks.equal("four of five", 4.0 / 5.0, x.explained());
        x.addSign(0, 51, 50, 0, 0);
        x.addSign(0, 52, 50, 0, 0);
        Checks.equal("six of seven", 6.0 / 7.0, x.explained());
        x.setWindow(45, 45, 10, 10, 5);
        x.set(2, 60);
        x.set(3, 20);
        Checks.equal("none of three", 0.0, x.explained());
        Checks.end();
    }
}
