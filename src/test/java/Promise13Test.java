/** lines, and the ranges that are joined until they are few. */
public final class Promise13Test {
    public static void main(String[] args) {
        SightLegend x = new SightLegend();
        Checks.equal("without signs", 0, x.lines());
        for (int limit = 10; limit <= 50; limit += 10) {
            x.limit(0, limit);
        }
        x.set(2, 1);
        x.set(3, 1);
        int[] perClass = {3, 1, 1, 1, 2, 1};
        for (int number = 0; number < 6; number++) {
            for (int i = 0; i < perClass[number]; i++) {
                x.addSign(0, 50, 50, number * 10 + 5, 0);
            }
        }
        x.set(0, 6);
        Checks.equal("six lines", 6, x.lines());
        for (int number = 0; number < 6; number++) {
            Checks.line(x, number, 0, 0, -1, number, number, perClass[number]);
        }
        x.set(0, 5);
        Checks.equal("five lines", 5, x.lines());
        Checks.line(x, 0, 0, 0, -1, 0, 0, 3);
        Checks.line(x, 1, 0, 0, -1, 1, 2, 2);
        Checks.line(x, 2, 0, 0, -1, 3, 3, 1);
        x.set(0, 4);
        Checks.equal("four lines", 4, x.lines());
        Checks.line(x, 1, 0, 0, -1, 1, 3, 3);
        x.set(0, 3);
        Checks.equal("three lines", 3, x.lines());
        Checks.line(x, 0, 0, 0, -1, 0, 0, 3);
        Checks.line(x, 1, 0, 0, -1, 1, 3, 3);
        Checks.line(x, 2, 0, 0, -1, 4, 5, 3);
        x.set(0, 2);
        Checks.equal("two lines", 2, x.lines());
        Checks.line(x, 0, 0, 0, -1, 0, 3, 6);
        Checks.line(x, 1, 0, 0, -1, 4, 5, 3);
        x.set(0, 1);
        Checks.equal("one line", 1, x.lines());
        Checks.line(x, 0, 0, 0, -1, 0, 5, 9);

        SightLegend gap = new SightLegend();
        gap.limit(4, 10);
        gap.limit(4, 20);
        gap.limit(4, 30);
        gap.addSign(4, 50, 50, 15, 0);
        gap.addSign(4, 50, 50, 35, 0);
        Checks.equal("classes that are not in sight have no lines", 2, gap.lines());
        Checks.line(gap, 0, 0, 4, -1, 1, 1, 1);
        Checks.line(gap, 1, 0, 4, -1, 3, 3, 1);
        gap.set(0, 1);
        Checks.line(gap, 0, 0, 4, -1, 1, 3, 2);
        gap.setWindow(100, 100, 10, 10, 5);
        Checks.equal("none in the window", 0, gap.lines());
        Checks.end();
    }
}
