/** Terms: the rounds. */
final class TermsRoundsEdges {
    private static final String FIRST =
            "In round 1 all shown signs are in sight, and the legend is made for them, with its box.";
    private static final String FURTHER = "In each further round the shown signs that the box of the round before "
            + "does not cover are in sight, and the legend and its box are made for them.";
    private static final String END = "The rounds end behind a round whose lines are the same as those of the round "
            + "before (the same kinds, classes, headings and joined lines, in the same order), or behind round 8.";
    private static final String LAST = "The legend and the box are those of the last round; "
            + "a sign is explained if it was in sight in it.";

    private TermsRoundsEdges() {
    }

    /**
     * Round 1: five lines in three columns, a box of 3 to 2 over the first sign. Round 2: four lines
     * in four columns, a box of 4 to 1 over the same sign. Round 3 is as round 2.
     */
    static SightLegend fiveLinesThenFour() {
        SightLegend x = new SightLegend();
        x.set(1, 4);
        x.set(2, 1);
        x.set(3, 1);
        int[][] places = {{0, 0}, {99, 0}, {0, 99}, {99, 99}, {50, 50}};
        for (int kind = 0; kind < 5; kind++) {
            x.addSign(kind, places[kind][0], places[kind][1], 0, 0);
        }
        return x;
    }

    /**
     * A window of ten rows, in which each kind has a sign, and a box as wide as the window: of n
     * lines it stands at the top or at the bottom, n * height rows high.
     */
    private static SightLegend rows(int height, int... rows) {
        SightLegend x = new SightLegend();
        x.setWindow(0, 0, 10, 10, 5);
        x.set(2, 10);
        x.set(3, height);
        for (int kind = 0; kind < rows.length; kind++) {
            x.addSign(kind, 5, rows[kind], 0, 0);
        }
        return x;
    }

    /**
     * The lines of the rounds are 7 (rows 0 to 6 covered, 5 signs as at the bottom), 2 (rows 8 and
     * 9), 6 (rows 0 to 5), 3 (rows 0 to 2), 5 (rows 5 to 9), 4 (rows 0 to 3), 4 other ones (rows 0
     * to 3), and in round 8 the same four.
     */
    static SightLegend staysInRoundEight() {
        return rows(1, 0, 1, 3, 4, 6, 7, 9);
    }

    /**
     * Odd rounds: both kinds, and a box bottom left over the third sign. Even rounds: kind 2 with the
     * first two signs, and a box top right over the second one, which is in sight.
     */
    static SightLegend coversOneInSight() {
        SightLegend x = new SightLegend();
        x.setWindow(0, 0, 10, 10, 5);
        x.set(1, 2);
        x.set(2, 8);
        x.addSign(2, 0, 0, 0, 0);
        x.addSign(2, 3, 2, 0, 0);
        x.addSign(1, 7, 7, 0, 0);
        return x;
    }

    static void tests() {
        Sentences.of("Terms");
        Sentences.holds(FIRST, "empty: no shown sign", () -> {
            SightLegend x = rows(1, 0, 5, 9);
            x.setWindow(50, 50, 10, 10, 5);
            Checks.equal("firstLines()", 0, x.firstLines());
            Checks.rounds(x, 2, 1, 0);
        });
        Sentences.holds(FIRST, "those that a box will cover too", () ->
                Checks.equal("firstLines()", 7, staysInRoundEight().firstLines()));
        Sentences.holds(FIRST, "not those that are not shown", () -> {
            SightLegend x = rows(1, 0, 5, 9);
            x.addSign(3, 10, 5, 0, 0);
            x.addSign(4, 5, 5, 0, 5);
            Checks.equal("firstLines()", 4, x.firstLines());
            x.setWindow(0, 0, 10, 10, 4);
            Checks.equal("firstLines()", 3, x.firstLines());
        });
        Sentences.holds(FIRST, "the box of the legend before a change hides none", () -> {
            SightLegend x = fiveLinesThenFour();
            Checks.equal("lines()", 4, x.lines());
            x.moveSign(0, 50, 51);
            Checks.equal("firstLines()", 5, x.firstLines());
            Checks.equal("lines()", 5, x.lines());
        });
        further();
        end();
        last();
    }

    private static void further() {
        Sentences.holds(FURTHER, "none covered: round 2 is as round 1", () -> {
            Checks.rounds(rows(1, 5), 2, 1, 0);
            Checks.equal("box(5)", 0, rows(1, 5).box(5));
        });
        Sentences.holds(FURTHER, "one covered", () -> {
            // two lines over row 0, one line over row 0 again
            Checks.rounds(rows(1, 0, 9), 3, 1, 0);
            Checks.equal("lines()", 1, rows(1, 0, 9).lines());
            Checks.line(rows(1, 0, 9), 0, 0, 1, -1, 0, 0, 1);
        });
        Sentences.holds(FURTHER, "all covered: round 2 has no line, and round 3 all of them", () ->
                Checks.rounds(Promise10Edges.allCovered(3), 8, 0, 0));
        Sentences.holds(FURTHER, "a sign that was hidden is in sight again", () -> {
            // row 9 is hidden in rounds 3 and 6, and in sight in rounds 7 and 8
            SightLegend x = staysInRoundEight();
            Checks.equal("sign(6, 7)", 1, x.sign(6, 7));
        });
        Sentences.holds(FURTHER, "the box of the round before, not of round 1", () -> {
            // two lines cover rows 0 to 7, with three signs; one line rows 6 to 9, with two
            SightLegend x = otherKinds();
            Checks.equal("the box of the last round", 2, x.box(0));
            Checks.equal("explained", 3, x.value(11));
        });
    }

    /** Kind 0 in the rows 8 and 9, kind 1 in rows 2 and 3; each line is four rows high. */
    private static SightLegend otherKinds() {
        SightLegend x = rows(4, 8, 2);
        x.addSign(0, 5, 9, 0, 0);
        x.addSign(1, 5, 3, 0, 0);
        x.addSign(1, 6, 3, 0, 0);
        return x;
    }

    /** As above, but of one kind and two classes. */
    private static SightLegend otherClasses() {
        SightLegend x = rows(4);
        x.limit(0, 10);
        int[][] signs = {{8, 0}, {9, 0}, {2, 10}, {3, 10}, {3, 10}};
        for (int[] sign : signs) {
            x.addSign(0, 5, sign[0], sign[1], 0);
        }
        return x;
    }

    /** A single line over row 0, whose class is not in sight behind round 1. */
    private static SightLegend oneClassLess(int hidden, int left) {
        SightLegend x = rows(4);
        x.set(0, 1);
        x.limit(0, 10);
        x.addSign(0, 5, 0, hidden, 0);
        x.addSign(0, 5, 5, left, 0);
        x.addSign(0, 5, 9, left, 0);
        x.addSign(0, 6, 9, left, 0);
        return x;
    }

    /** Both groups are joined lines; in round 2 the first one is left, from round 3 on the second. */
    private static SightLegend otherGroups() {
        SightLegend x = rows(4, 8, 9, 2, 3);
        x.addSign(2, 6, 3, 0, 0);
        for (int kind = 0; kind < 4; kind++) {
            x.setKind(kind, kind, kind / 2);
        }
        x.setWay(0, 1);
        x.setWay(1, 1);
        return x;
    }

    private static void end() {
        Sentences.holds(END, "round 2 at the earliest", () -> Checks.rounds(rows(1, 5), 2, 1, 0));
        Sentences.holds(END, "fewer signs of the same lines are the same lines", () -> {
            SightLegend x = Promise10Edges.corners();
            Checks.rounds(x, 2, 1, 0);
            Checks.line(x, 0, 0, 0, -1, 0, 0, 3);
        });
        Sentences.holds(END, "a range of several classes is the same line again", () -> {
            SightLegend x = oneClassLess(0, 10);
            x.addSign(0, 7, 9, 0, 0);
            Checks.rounds(x, 2, 1, 0);
            Checks.line(x, 0, 0, 0, -1, 0, 1, 4);
        });
        Sentences.holds(END, "fewer lines", () -> Checks.rounds(fiveLinesThenFour(), 3, 1, 0));
        Sentences.holds(END, "as many lines of other kinds", () -> {
            Checks.rounds(otherKinds(), 4, 1, 0);
            Checks.line(otherKinds(), 0, 0, 1, -1, 0, 0, 3);
        });
        Sentences.holds(END, "as many lines of other classes", () -> {
            Checks.rounds(otherClasses(), 4, 1, 0);
            Checks.line(otherClasses(), 0, 0, 0, -1, 1, 1, 3);
        });
        Sentences.holds(END, "another first class alone", () -> {
            Checks.rounds(oneClassLess(0, 10), 3, 1, 0);
            Checks.line(oneClassLess(0, 10), 0, 0, 0, -1, 1, 1, 3);
        });
        Sentences.holds(END, "another last class alone", () -> {
            Checks.rounds(oneClassLess(10, 0), 3, 1, 0);
            Checks.line(oneClassLess(10, 0), 0, 0, 0, -1, 0, 0, 3);
        });
        Sentences.holds(END, "as many joined lines of other groups", () -> {
            Checks.rounds(otherGroups(), 4, 1, 0);
            Checks.line(otherGroups(), 0, 2, -1, 1, -1, -1, 3);
        });
        Sentences.holds(END, "a line of a kind instead of the joined line", () -> {
            SightLegend x = rows(4, 0, 5);
            x.addSign(1, 5, 9, 0, 0);
            x.addSign(1, 6, 9, 0, 0);
            x.setKind(0, 0, 3);
            x.setKind(1, 1, 3);
            x.setWay(3, 1);
            Checks.rounds(x, 3, 1, 0);
            Checks.line(x, 0, 0, 1, 3, 0, 0, 3);
        });
        Sentences.holds(END, "no lines twice are the same lines", () -> Checks.rounds(new SightLegend(), 2, 1, 0));
        Sentences.holds(END, "round 8, whose lines are the same", () -> Checks.rounds(staysInRoundEight(), 8, 1, 0));
        Sentences.holds(END, "round 8, whose lines are not the same", () ->
                Checks.rounds(coversOneInSight(), 8, 0, 1));
    }

    private static void last() {
        Sentences.holds(LAST, "of round 8, not of another", () -> {
            SightLegend x = staysInRoundEight();
            Checks.equal("lines()", 4, x.lines());
            for (int line = 0; line < 4; line++) {
                Checks.line(x, line, 0, line + 3, -1, 0, 0, 1, 0, line);
            }
            Checks.box(x, 0, 0, 0, 10, 4, 3);
            int[] explained = {0, 0, 0, 1, 1, 1, 1};
            for (int sign = 0; sign < 7; sign++) {
                Checks.equal("sign(" + sign + ", 7)", explained[sign], x.sign(sign, 7));
            }
        });
        Sentences.holds(LAST, "of round 8, an even one", () -> {
            SightLegend x = coversOneInSight();
            Checks.equal("lines()", 1, x.lines());
            Checks.line(x, 0, 0, 2, -1, 0, 0, 2);
            Checks.box(x, 1, 2, 0, 8, 5, 1);
        });
        Sentences.holds(LAST, "a sign that the last box covers, but that was in sight", () -> {
            SightLegend x = coversOneInSight();
            Checks.sign(x, 1, 2, 3, 2, 0, 0, 0, 1, 1, 0);
            Checks.sign(x, 2, 1, 7, 7, 0, 0, 0, 1, 0, -1);
        });
        Sentences.holds(LAST, "of round 8, when that has no line", () -> {
            SightLegend x = Promise10Edges.allCovered(40);
            Checks.equal("lines()", 0, x.lines());
            Checks.box(x, -1, -1, -1, -1, -1, -1);
            for (int sign = 0; sign < 40; sign++) {
                Checks.equal("sign(" + sign + ", 7)", 0, x.sign(sign, 7));
            }
        });
    }
}
