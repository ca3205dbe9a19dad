/** line: the blocks in their order, and the columns. */
public final class Promise14Test {
    private static void places(SightLegend x, int... columnsAndPlaces) {
        for (int line = 0; line < columnsAndPlaces.length / 2; line++) {
            Checks.equal("the column of line " + line, columnsAndPlaces[2 * line], x.line(line, 6));
            Checks.equal("the place of line " + line, columnsAndPlaces[2 * line + 1], x.line(line, 7));
        }
    }

    public static void main(String[] args) {
        SightLegend x = new SightLegend();
        Checks.noIndex("no line at all", x, () -> x.line(0, 8));
        x.set(2, 1);
        x.set(3, 1);
        x.setKind(0, 20, 0);
        x.setKind(1, 20, SightLegend.NONE);
        x.setKind(3, 50, 2);
        x.setKind(4, 0, 2);
        x.setKind(5, 50, 2);
        x.addSign(0, 50, 50, 0, 0);
        x.addSign(1, 50, 50, 0, 0);
        x.addSign(1, 51, 50, 0, 0);
        x.addSign(3, 50, 50, 0, 0);
        x.addSign(4, 50, 50, 0, 0);
        x.addSign(5, 50, 50, 0, 0);
        Checks.equal("lines()", 6, x.lines());
        Checks.line(x, 0, 1, -1, 2, -1, -1, 0);
        Checks.line(x, 1, 0, 4, 2, 0, 0, 1);
        Checks.line(x, 2, 0, 3, 2, 0, 0, 1);
        Checks.line(x, 3, 0, 5, 2, 0, 0, 1);
        Checks.line(x, 4, 0, 0, 0, 0, 0, 1);
        Checks.line(x, 5, 0, 1, -1, 0, 0, 2);
        places(x, 0, 0, 0, 1, 0, 2, 0, 3, 0, 4, 0, 5);
        x.set(1, 4);
        places(x, 0, 0, 0, 1, 1, 0, 1, 1, 2, 0, 2, 1);
        x.setKind(4, 30, 2);
        Checks.line(x, 2, 1, -1, 2, -1, -1, 0);
        places(x, 0, 0, 0, 1, 1, 0, 1, 1, 2, 0, 2, 1);
        // a heading leaves the last place of a column, of the last column it does not
        x.removeSign(0);
        Checks.equal("five lines", 5, x.lines());
        places(x, 0, 0, 1, 0, 1, 1, 2, 0, 2, 1);
        x.set(1, 2);
        places(x, 0, 0, 0, 1, 0, 2, 1, 0, 1, 1);
        x.addSign(0, 50, 50, 0, 0);
        places(x, 0, 0, 0, 1, 1, 0, 1, 1, 1, 2, 1, 3);
        x.set(1, 1);
        places(x, 0, 0, 0, 1, 0, 2, 0, 3, 0, 4, 0, 5);
        Checks.noIndex("the line goes first", x, () -> x.line(6, 8));
        Checks.noIndex("line -1", x, () -> x.line(-1, 0));
        Checks.noArgument("what 8", x, () -> x.line(5, 8));
        Checks.noArgument("what -1", x, () -> x.line(5, -1));
        x.setWay(2, 1);
        Checks.equal("joined", 3, x.lines());
        Checks.line(x, 2, 2, -1, 2, -1, -1, 3);

        SightLegend two = new SightLegend();
        two.set(1, 4);
        two.setKind(8, 8, 3);
        two.setKind(9, 9, 3);
        two.addSign(8, 50, 50, 0, 0);
        two.addSign(9, 50, 50, 0, 0);
        places(two, 0, 0, 1, 0, 2, 0);
        two.addSign(0, 50, 50, 0, 0);
        places(two, 0, 0, 1, 0, 2, 0, 3, 0);
        Checks.line(two, 1, 1, -1, 3, -1, -1, 0);

        // the kind of the block with the lowest rank counts: 11 has rank 5, as 6 has
        SightLegend ranks = new SightLegend();
        ranks.setKind(11, 5, 0);
        ranks.setKind(1, 90, 0);
        ranks.setKind(6, 5, SightLegend.NONE);
        ranks.addSign(11, 50, 50, 0, 0);
        ranks.addSign(1, 50, 50, 0, 0);
        ranks.addSign(6, 50, 50, 0, 0);
        Checks.line(ranks, 0, 0, 6, -1, 0, 0, 1);
        Checks.line(ranks, 1, 1, -1, 0, -1, -1, 0);
        Checks.line(ranks, 2, 0, 11, 0, 0, 0, 1);
        Checks.line(ranks, 3, 0, 1, 0, 0, 0, 1);
        ranks.setKind(1, 5, 0);
        Checks.line(ranks, 0, 1, -1, 0, -1, -1, 0);
        Checks.line(ranks, 1, 0, 1, 0, 0, 0, 1);
        Checks.line(ranks, 2, 0, 11, 0, 0, 0, 1);
        Checks.line(ranks, 3, 0, 6, -1, 0, 0, 1);

        // a kind out of sight lends its block no rank, and makes no heading
        SightLegend unseen = new SightLegend();
        unseen.setKind(1, 0, 3);
        unseen.setKind(2, 50, 3);
        unseen.addSign(1, 150, 50, 0, 0);
        unseen.addSign(2, 50, 50, 0, 0);
        unseen.addSign(11, 50, 50, 0, 0);
        Checks.equal("lines()", 2, unseen.lines());
        Checks.line(unseen, 0, 0, 11, -1, 0, 0, 1);
        Checks.line(unseen, 1, 0, 2, 3, 0, 0, 1);
        unseen.moveSign(0, 51, 50);
        Checks.equal("lines() then", 4, unseen.lines());
        Checks.line(unseen, 0, 1, -1, 3, -1, -1, 0);
        Checks.line(unseen, 1, 0, 1, 3, 0, 0, 1);
        Checks.line(unseen, 2, 0, 2, 3, 0, 0, 1);
        Checks.line(unseen, 3, 0, 11, -1, 0, 0, 1);
        Checks.end();
    }
}
