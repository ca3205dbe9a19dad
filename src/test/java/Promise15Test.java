/** box: its size, and the corner where it covers the fewest signs. */
public final class Promise15Test {
    public static void main(String[] args) {
        SightLegend x = new SightLegend();
        Checks.noArgument("box(-1)", x, () -> x.box(-1));
        Checks.noArgument("box(6)", x, () -> x.box(6));
        Checks.box(x, -1, -1, -1, -1, -1, -1);
        x.setWindow(10, 10, 20, 30, 5);
        x.set(2, 5);
        x.set(3, 3);
        x.addSign(0, 14, 12, 0, 0);
        Checks.box(x, 1, 25, 10, 5, 3, 0);
        x.moveSign(0, 15, 12);
        Checks.box(x, 0, 10, 10, 5, 3, 0);
        x.moveSign(0, 14, 13);
        Checks.box(x, 0, 10, 10, 5, 3, 0);
        x.moveSign(0, 10, 10);
        x.addSign(0, 25, 12, 0, 0);
        Checks.box(x, 2, 10, 37, 5, 3, 0);
        x.addSign(0, 10, 37, 0, 0);
        Checks.box(x, 3, 25, 37, 5, 3, 0);
        x.addSign(0, 29, 39, 0, 0);
        Checks.box(x, 0, 10, 10, 5, 3, 1);
        x.addSign(0, 10, 11, 0, 0);
        Checks.box(x, 1, 25, 10, 5, 3, 1);
        x.addSign(0, 25, 10, 0, 0);
        Checks.box(x, 2, 10, 37, 5, 3, 1);
        // a sign beyond the zoom is not covered
        x.addSign(0, 10, 38, 0, 4);
        Checks.box(x, 3, 25, 37, 5, 3, 1);
        x.setWindow(10, 10, 20, 30, 3);
        Checks.box(x, 2, 10, 37, 5, 3, 1);

        SightLegend large = new SightLegend();
        large.setWindow(190, 195, 10, 10, 5);
        large.set(2, 60);
        large.set(3, 20);
        large.addSign(3, 195, 199, 0, 0);
        Checks.equal("a covered sign, seen and hidden by turns", 8, large.rounds(0));
        Checks.box(large, -1, -1, -1, -1, -1, -1);
        large.set(2, 4);
        Checks.box(large, 0, 190, 195, 4, 10, 0);
        large.set(2, 60);
        large.set(3, 4);
        Checks.box(large, 0, 190, 195, 10, 4, 0);
        large.set(3, 5);
        Checks.box(large, 2, 190, 200, 10, 5, 0);

        // columns that have a line, and the most lines in one
        SightLegend wide = new SightLegend();
        wide.set(1, 4);
        for (int kind = 0; kind < 5; kind++) {
            wide.addSign(kind, 50, 50, 0, 0);
        }
        Checks.box(wide, 0, 0, 0, 60, 10, 0);
        wide.set(1, 2);
        Checks.box(wide, 0, 0, 0, 40, 15, 0);
        wide.set(2, 60);
        Checks.box(wide, 0, 0, 0, 100, 15, 0);

        // covered signs count in it, in sight or not
        SightLegend hidden = new SightLegend();
        hidden.setWindow(10, 10, 20, 20, 5);
        hidden.set(1, 4);
        hidden.set(2, 10);
        hidden.set(3, 6);
        hidden.addSign(0, 10, 10, 0, 0);
        hidden.addSign(1, 29, 10, 0, 0);
        hidden.addSign(2, 10, 29, 0, 0);
        hidden.addSign(3, 29, 29, 0, 0);
        hidden.addSign(4, 20, 20, 0, 0);
        Checks.box(hidden, 0, 10, 10, 20, 6, 2);
        Checks.equal("of them in sight", 0, hidden.rounds(2));

        SightLegend full = new SightLegend();
        full.setWindow(0, 0, 10, 10, 5);
        full.set(2, 9);
        full.set(3, 9);
        full.addSign(0, 0, 0, 0, 0);
        for (int i = 1; i < 40; i++) {
            full.addSign(0, 5, 5, 0, 0);
        }
        Checks.box(full, 1, 1, 0, 9, 9, 39);
        Checks.end();
    }
}
