import java.util.ArrayList;
import java.util.List;

/** Terms: the exceptions. */
final class TermsExceptionsEdges {
    private static final String CHANGES_NOTHING = "A call that throws an exception changes nothing.";
    private static final String LISTED_FIRST =
            "If several exceptions apply, the one that is listed first is thrown.";
    private static final Class<?> NO_INDEX = IndexOutOfBoundsException.class;
    private static final Class<?> NO_ARGUMENT = IllegalArgumentException.class;
    private static final Class<?> NO_STATE = IllegalStateException.class;

    /** A call of a method of the face. */
    private interface Step {
        void on(SightLegend x);
    }

    /** A call that is refused by a full map, and the exception that is due. */
    private record Refused(String name, Class<?> due, Step step) {
    }

    private static final List<Refused> REFUSED = new ArrayList<>();

    private TermsExceptionsEdges() {
    }

    private static void add(String name, Class<?> due, Step step) {
        REFUSED.add(new Refused(name, due, step));
    }

    /** 40 signs, a kind with five limits, a text of 160 bytes and four saved states. */
    private static SightLegend full() {
        SightLegend x = Promise09Edges.full();
        for (int i = 0; i < 40; i++) {
            x.addSign(i % 12, 30 + i, 40 + i, i, i % 6);
        }
        for (int i = 0; i < 160; i++) {
            x.append("7,1,2,3,4;".charAt(i % 10));
        }
        return x;
    }

    static void tests() {
        Sentences.of("Terms");
        collect();
        for (Refused one : REFUSED) {
            Sentences.holds(CHANGES_NOTHING, one.name, () -> changesNothing(one));
        }
        Sentences.holds(CHANGES_NOTHING, "undo without a saved state", () -> {
            SightLegend x = new SightLegend();
            Checks.noState("undo", x, x::undo);
            Checks.equal("the digest", new SightLegend().digest(), x.digest());
        });
        severalApply();
    }

    private static void collect() {
        add("addSign, kind", NO_INDEX, x -> x.addSign(12, 1, 1, 1, 1));
        add("addSign, column", NO_ARGUMENT, x -> x.addSign(1, 200, 1, 1, 1));
        add("addSign, full", NO_STATE, x -> x.addSign(1, 1, 1, 1, 1));
        add("removeSign, sign", NO_INDEX, x -> x.removeSign(40));
        add("moveSign, sign", NO_INDEX, x -> x.moveSign(40, 1, 1));
        add("moveSign, column", NO_ARGUMENT, x -> x.moveSign(0, 200, 1));
        add("moveSign, row", NO_ARGUMENT, x -> x.moveSign(0, 1, 200));
        add("setWindow, left", NO_ARGUMENT, x -> x.setWindow(200, 1, 10, 10, 1));
        add("setWindow, top", NO_ARGUMENT, x -> x.setWindow(1, 200, 10, 10, 1));
        add("setWindow, width", NO_ARGUMENT, x -> x.setWindow(1, 1, 9, 10, 1));
        add("setWindow, height", NO_ARGUMENT, x -> x.setWindow(1, 1, 10, 9, 1));
        add("setWindow, zoom", NO_ARGUMENT, x -> x.setWindow(1, 1, 10, 10, 6));
        add("set, what", NO_ARGUMENT, x -> x.set(4, 1));
        add("set, value", NO_ARGUMENT, x -> x.set(1, 5));
        add("setKind, kind", NO_INDEX, x -> x.setKind(12, 1, 1));
        add("setKind, rank", NO_ARGUMENT, x -> x.setKind(1, 100, 1));
        add("setKind, group", NO_ARGUMENT, x -> x.setKind(1, 99, 5));
        add("setWay, group", NO_INDEX, x -> x.setWay(5, 1));
        add("setWay, way", NO_ARGUMENT, x -> x.setWay(4, 2));
        add("limit, kind", NO_INDEX, x -> x.limit(12, 1));
        add("limit, limit", NO_ARGUMENT, x -> x.limit(1, 0));
        add("limit, full", NO_STATE, x -> x.limit(11, 9999));
        add("value, what", NO_ARGUMENT, x -> x.value(12));
        add("sign, sign", NO_INDEX, x -> x.sign(40, 1));
        add("sign, what", NO_ARGUMENT, x -> x.sign(1, 9));
        add("kind, kind", NO_INDEX, x -> x.kind(12, 1));
        add("kind, what", NO_ARGUMENT, x -> x.kind(1, 10));
        add("line, line", NO_INDEX, x -> x.line(77, 1));
        add("line, what", NO_ARGUMENT, x -> x.line(0, 8));
        add("box, what", NO_ARGUMENT, x -> x.box(6));
        add("rounds, what", NO_ARGUMENT, x -> x.rounds(3));
        add("linesAt, left", NO_ARGUMENT, x -> x.linesAt(200, 1));
        add("linesAt, top", NO_ARGUMENT, x -> x.linesAt(1, 200));
        add("zoomFor, kind", NO_INDEX, x -> x.zoomFor(12));
        add("linesSaved, sign", NO_INDEX, x -> x.linesSaved(40));
        add("append, value", NO_ARGUMENT, x -> x.append(128));
        add("append, full", NO_STATE, x -> x.append(48));
    }

    /**
     * Behind the refused call the map answers as another one that did not have it: its text and its
     * saved states too.
     */
    private static void changesNothing(Refused one) {
        SightLegend x = full();
        SightLegend twin = full();
        Checks.refused(one.name, x, one.due, () -> one.step.on(x));
        Checks.equal("the digest", twin.digest(), x.digest());
        Checks.equal("the text", twin.parse(), x.parse());
        Checks.equal("the digest behind parse", twin.digest(), x.digest());
        for (int remain = 3; remain >= 0; remain--) {
            Checks.equal("undo", remain, x.undo());
            twin.undo();
            Checks.equal("the digest behind undo", twin.digest(), x.digest());
        }
    }

    private static void first(String name, Class<?> due, Step step) {
        Sentences.holds(LISTED_FIRST, name, () -> {
            SightLegend x = full();
            Checks.refused(name, x, due, () -> step.on(x));
        });
    }

    private static void severalApply() {
        Sentences.holds(LISTED_FIRST, "addSign, the kind before another argument", () -> {
            SightLegend x = new SightLegend();
            Checks.noIndex("addSign", x, () -> x.addSign(12, 200, 200, 10000, 6));
        });
        first("addSign, the kind before the full map", NO_INDEX, x -> x.addSign(-1, 1, 1, 1, 1));
        first("addSign, all three", NO_INDEX, x -> x.addSign(12, -1, 1, 1, 1));
        first("addSign, another argument before the full map", NO_ARGUMENT, x -> x.addSign(1, 1, 1, 1, 6));
        first("moveSign, the sign before the column", NO_INDEX, x -> x.moveSign(40, 200, 1));
        first("moveSign, the sign before the row", NO_INDEX, x -> x.moveSign(-1, 1, -1));
        first("setKind, the kind before the rank", NO_INDEX, x -> x.setKind(12, 100, 1));
        first("setKind, the kind before the group", NO_INDEX, x -> x.setKind(-1, 1, -2));
        first("setWay, the group before the way", NO_INDEX, x -> x.setWay(5, 2));
        first("limit, the kind before the limit", NO_INDEX, x -> x.limit(12, 0));
        first("limit, the limit before the full kind", NO_ARGUMENT, x -> x.limit(11, 10000));
        first("sign, the sign before what", NO_INDEX, x -> x.sign(40, 9));
        first("kind, the kind before what", NO_INDEX, x -> x.kind(12, 10));
        first("line, the line before what", NO_INDEX, x -> x.line(-1, 8));
        first("append, the value before the full text", NO_ARGUMENT, x -> x.append(-1));
    }
}
