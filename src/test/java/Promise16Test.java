/** rounds. */
public final class Promise16Test {
    /** In round 2 a sign is covered, and as many lines stand for other classes. */
    private static void otherClasses(int hiddenClass, int firstClass, int lastClass) {
        SightLegend x = new SightLegend();
        x.set(0, 2);
        x.limit(0, 10);
        x.limit(0, 20);
        int hidden = hiddenClass * 10;
        x.addSign(0, 0, 0, hidden, 0);
        x.addSign(0, 50, 50, 10, 0);
        for (int i = 0; i < 5; i++) {
            x.addSign(0, 50, 50, 20 - hidden, 0);
        }
        x.addSign(0, 99, 0, 20 - hidden, 0);
        x.addSign(0, 0, 99, 20 - hidden, 0);
        x.addSign(0, 99, 99, 20 - hidden, 0);
        Checks.rounds(x, 3, 1, 0);
        Checks.equal("firstLines()", 2, x.firstLines());
        Checks.equal("lines()", 2, x.lines());
        Checks.line(x, 0, 0, 0, -1, firstClass, firstClass);
        Checks.line(x, 1, 0, 0, -1, lastClass, lastClass);
    }

    /**
     * Round 1 has two lines and a box over the second one's signs, round 2 has the first line
     * and a box over its signs, rounds 3 and 4 have the second line.
     */
    private static void otherKinds(boolean joined) {
        SightLegend x = new SightLegend();
        x.setWindow(0, 0, 10, 10, 5);
        x.set(2, 10);
        x.set(3, 4);
        int[] groups = {0, 0, 1, 1};
        for (int kind = 0; kind < 4 && joined; kind++) {
            x.setKind(kind, kind, groups[kind]);
            x.setWay(groups[kind], 1);
        }
        x.addSign(0, 5, 8, 0, 0);
        x.addSign(joined ? 1 : 0, 5, 9, 0, 0);
        x.addSign(2, 5, 2, 0, 0);
        x.addSign(joined ? 3 : 2, 5, 3, 0, 0);
        x.addSign(2, 6, 3, 0, 0);
        Checks.rounds(x, 4, 1, 0);
        Checks.equal("firstLines()", 2, x.firstLines());
        Checks.equal("lines()", 1, x.lines());
        Checks.line(x, 0, joined ? 2 : 0, joined ? -1 : 2, joined ? 1 : -1);
        Checks.box(x, 2, 0, 6, 10, 4, 2);
    }

    public static void main(String[] args) {
        otherClasses(0, 1, 2);
        otherClasses(2, 0, 1);
        otherKinds(false);
        otherKinds(true);
        SightLegend x = new SightLegend();
        Checks.noArgument("rounds(-1)", x, () -> x.rounds(-1));
        Checks.noArgument("rounds(3)", x, () -> x.rounds(3));
        Checks.rounds(x, 2, 1, 0);
        x.addSign(0, 50, 50, 0, 0);
        Checks.rounds(x, 2, 1, 0);

        // a covered sign, but others of its kind are left: round 2 has the lines of round 1
        SightLegend same = new SightLegend();
        same.addSign(0, 0, 0, 0, 0);
        same.addSign(0, 99, 0, 0, 0);
        same.addSign(0, 0, 99, 0, 0);
        same.addSign(0, 99, 99, 0, 0);
        Checks.rounds(same, 2, 1, 0);
        Checks.equal("explained then", 3, same.value(11));

        // round 1: five lines, a box of 3 to 2 over the first sign; round 2: four lines, 4 to 1
        SightLegend three = new SightLegend();
        three.set(1, 4);
        three.set(2, 1);
        three.set(3, 1);
        three.addSign(0, 0, 0, 0, 0);
        three.addSign(1, 99, 0, 0, 0);
        three.addSign(2, 0, 99, 0, 0);
        three.addSign(3, 99, 99, 0, 0);
        three.addSign(4, 50, 50, 0, 0);
        Checks.rounds(three, 3, 1, 0);
        Checks.box(three, 0, 0, 0, 4, 1, 1);

        // all covered and none covered, by turns
        SightLegend turns = new SightLegend();
        turns.setWindow(0, 0, 10, 10, 5);
        turns.set(3, 20);
        turns.addSign(0, 5, 5, 0, 0);
        Checks.rounds(turns, 8, 0, 0);
        Checks.equal("the last round is an even one", 0, turns.lines());

        // odd rounds: both kinds, a box over the third sign; even rounds: kind 2 with the first
        // two signs, and a box top right over the second one, which is in sight
        SightLegend seen = new SightLegend();
        seen.setWindow(0, 0, 10, 10, 5);
        seen.set(1, 2);
        seen.set(2, 8);
        seen.addSign(2, 0, 0, 0, 0);
        seen.addSign(2, 3, 2, 0, 0);
        seen.addSign(1, 7, 7, 0, 0);
        Checks.rounds(seen, 8, 0, 1);
        Checks.box(seen, 1, 2, 0, 8, 5, 1);
        Checks.equal("the covered sign is explained", 1, seen.sign(1, 7));
        Checks.equal("by the line", 0, seen.sign(1, 8));
        Checks.equal("the third sign is not", 0, seen.sign(2, 7));
        Checks.equal("explained then", 2, seen.value(11));
        Checks.end();
    }
}
