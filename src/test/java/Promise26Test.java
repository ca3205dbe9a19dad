/** undo. */
public final class Promise26Test {
    public static void main(String[] args) {
        SightLegend x = new SightLegend();
        Checks.noState("no saved state", x, x::undo);
        x.set(0, 3);
        Checks.equal("a call that changes nothing saves too", 0, x.undo());
        Checks.noState("the saved state is gone", x, x::undo);

        // five changes, of which the first can't be undone
        for (int value = 1; value <= 5; value++) {
            x.set(2, value);
        }
        for (int left = 3; left >= 0; left--) {
            Checks.equal("undo", left, x.undo());
            Checks.equal("value(2)", left + 1, x.value(2));
        }
        Checks.noState("four states at most", x, x::undo);

        // undo saves nothing itself, and what follows is saved anew
        x.set(2, 10);
        x.set(2, 11);
        Checks.equal("undo", 1, x.undo());
        x.set(2, 12);
        Checks.equal("undo", 1, x.undo());
        Checks.equal("value(2)", 10, x.value(2));
        Checks.equal("undo", 0, x.undo());
        Checks.equal("value(2)", 1, x.value(2));

        everyChange();
        questionsSaveNothing();
        Checks.end();
    }

    /** Each change is made with three saved states behind it, and undone. */
    private static void everyChange() {
        SightLegend x = new SightLegend();
        x.addSign(1, 50, 50, 5, 1);
        x.addSign(2, 51, 50, 5, 1);
        x.limit(1, 7);
        Checks.write(x, "3,3,3,3,3;");
        Runnable[] changes = {
            () -> x.addSign(3, 60, 60, 6, 2), () -> x.removeSign(0), () -> x.moveSign(1, 0, 0),
            () -> x.setWindow(50, 50, 10, 10, 1), () -> x.set(3, 20), () -> x.setKind(1, 50, 3),
            () -> x.setWay(3, 1), () -> x.limit(1, 5), () -> x.limit(1, 7), () -> x.parse(),
        };
        for (int i = 0; i < changes.length; i++) {
            long before = x.digest();
            changes[i].run();
            Checks.equal("another digest behind change " + i, 1, x.digest() != before ? 1 : 0);
            Checks.equal("undo of change " + i, 3, x.undo());
            Checks.equal("the digest behind undo of change " + i, before, x.digest());
        }
        x.clearText();
        x.setWay(3, 1);
        x.append(48);
        x.undo();
        Checks.equal("the text is not undone", 1, x.clearText());
    }

    private static void questionsSaveNothing() {
        SightLegend x = new SightLegend();
        x.addSign(1, 50, 50, 5, 1);
        x.value(0);
        x.sign(0, 0);
        x.kind(0, 0);
        x.lines();
        x.line(0, 0);
        x.box(0);
        x.rounds(0);
        x.firstLines();
        x.explained();
        x.linesAt(0, 0);
        x.bestColumns();
        x.zoomFor(0);
        x.linesSaved(0);
        x.append(120);
        x.parse();
        x.clearText();
        x.digest();
        Checks.equal("undo of addSign alone", 0, x.undo());
        Checks.equal("no sign", 0, x.value(9));
    }
}
