/** firstLines. */
public final class Promise17Test {
    public static void main(String[] args) {
        SightLegend x = new SightLegend();
        Checks.equal("without signs", 0, x.firstLines());
        x.setWindow(0, 0, 20, 20, 5);
        x.set(2, 60);
        x.set(3, 20);
        x.addSign(0, 5, 5, 0, 0);
        x.addSign(1, 6, 6, 0, 0);
        x.addSign(2, 20, 6, 0, 0);
        Checks.equal("all covered", 2, x.firstLines());
        Checks.equal("lines() then", 0, x.lines());
        x.set(2, 1);
        x.set(3, 1);
        Checks.equal("none covered", 2, x.firstLines());
        Checks.equal("lines() too", 2, x.lines());
        x.setKind(0, 0, 0);
        x.setKind(1, 0, 0);
        Checks.equal("with a heading", 3, x.firstLines());
        x.setWay(0, 1);
        Checks.equal("joined", 1, x.firstLines());
        x.undo();
        Checks.equal("behind undo", 3, x.firstLines());

        // an earlier legend's box hides nothing in round 1 of the next one
        SightLegend again = new SightLegend();
        int[][] corners = {{0, 0}, {99, 0}, {0, 99}, {99, 99}, {50, 50}};
        for (int kind = 0; kind < 5; kind++) {
            again.addSign(kind, corners[kind][0], corners[kind][1], 0, 0);
        }
        Checks.equal("the lines left", 4, again.lines());
        again.set(0, 2);
        Checks.equal("the first lines behind a change", 5, again.firstLines());
        Checks.equal("the lines left behind a change", 4, again.lines());
        Checks.end();
    }
}
