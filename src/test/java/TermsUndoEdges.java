/** Terms: undo. */
final class TermsUndoEdges {
    private static final String SAVES =
            "Each successful call of a method whose description says \"undoable\" saves the state from before the call";
    private static final String NOTHING = "even if the call changes nothing";
    private static final String AT_MOST = "at most 4 states are saved, and the oldest is dropped first.";
    private static final String EVERYTHING = "The saved state contains everything except the sign text.";

    /** A call of a method of the face. */
    interface Step {
        void on(SightLegend x);
    }

    private static final Step[] UNDOABLE = {
        x -> x.addSign(11, 199, 199, 9999, 5), x -> x.removeSign(0), x -> x.moveSign(1, 199, 0),
        x -> x.setWindow(1, 2, 30, 40, 3), x -> x.set(0, 6), x -> x.set(1, 4), x -> x.set(2, 60), x -> x.set(3, 20),
        x -> x.setKind(1, 99, 4), x -> x.setWay(4, 1), x -> x.limit(1, 9999), x -> x.limit(1, 7), SightLegend::parse,
    };
    private static final Step[] THAT_CHANGE_NOTHING = {
        x -> x.moveSign(0, 30, 40), x -> x.setWindow(0, 0, 100, 100, 5), x -> x.set(0, 3), x -> x.set(1, 1),
        x -> x.set(2, 20), x -> x.set(3, 5), x -> x.setKind(0, 0, SightLegend.NONE), x -> x.setWay(0, 0),
    };
    private static final Step[] NOT_UNDOABLE = {
        x -> x.value(0), x -> x.sign(0, 0), x -> x.kind(0, 0), SightLegend::lines, x -> x.line(0, 0), x -> x.box(0),
        x -> x.rounds(0), SightLegend::firstLines, SightLegend::explained, x -> x.linesAt(0, 0),
        SightLegend::bestColumns, x -> x.zoomFor(0), x -> x.linesSaved(0), x -> x.append(48), SightLegend::clearText,
        SightLegend::digest,
    };

    private TermsUndoEdges() {
    }

    /** Two signs, a limit and a text of one sign; three saved states. */
    private static SightLegend map() {
        SightLegend x = Promise02Edges.withSigns(2);
        x.limit(1, 7);
        Checks.write(x, "3,50,50,0,0;");
        return x;
    }

    /** The digest without the number of saved states, which is its last part. */
    private static long stateOf(SightLegend x, int saved) {
        return x.digest() - saved;
    }

    static void tests() {
        Sentences.of("Terms");
        Sentences.holds(SAVES, "each of them", () -> {
            for (int i = 0; i < UNDOABLE.length; i++) {
                Step step = UNDOABLE[i];
                SightLegend x = map();
                Checks.undone("undoable call " + i, x, 3, () -> step.on(x));
            }
        });
        Sentences.holds(SAVES, "each of them changes something", () -> {
            for (int i = 0; i < UNDOABLE.length; i++) {
                SightLegend x = map();
                SightLegend same = map();
                UNDOABLE[i].on(x);
                same.set(2, 20);
                Checks.differ("the digests behind undoable call " + i, same.digest(), x.digest());
            }
        });
        Sentences.holds(SAVES, "no other method saves", () -> {
            for (int i = 0; i < NOT_UNDOABLE.length; i++) {
                SightLegend x = map();
                NOT_UNDOABLE[i].on(x);
                Checks.equal("undo behind call " + i, 2, x.undo());
            }
        });
        Sentences.holds(SAVES, "a call that is refused saves nothing", () -> {
            SightLegend x = map();
            Checks.noIndex("addSign", x, () -> x.addSign(12, 0, 0, 0, 0));
            Checks.noIndex("removeSign", x, () -> x.removeSign(2));
            Checks.noArgument("moveSign", x, () -> x.moveSign(0, 200, 0));
            Checks.noArgument("setWindow", x, () -> x.setWindow(0, 0, 9, 10, 0));
            Checks.noArgument("set", x, () -> x.set(0, 7));
            Checks.noArgument("setKind", x, () -> x.setKind(0, 100, 0));
            Checks.noArgument("setWay", x, () -> x.setWay(0, 2));
            Checks.noArgument("limit", x, () -> x.limit(0, 0));
            Checks.equal("undo", 2, x.undo());
        });
        Sentences.holds(SAVES, "a parse with a syntax error saves nothing", () -> {
            SightLegend x = map();
            x.append(',');
            Checks.equal("parse()", -10 - 12, x.parse());
            Checks.equal("undo", 2, x.undo());
        });
        Sentences.holds(SAVES, "undo itself saves nothing", () -> {
            SightLegend x = map();
            Checks.equal("undo", 2, x.undo());
            Checks.equal("undo", 1, x.undo());
            Checks.equal("undo", 0, x.undo());
            Checks.noState("undo", x, x::undo);
        });
        Sentences.holds(NOTHING, "each of them", () -> {
            for (int i = 0; i < THAT_CHANGE_NOTHING.length; i++) {
                Step step = THAT_CHANGE_NOTHING[i];
                SightLegend x = map();
                Checks.undone("call " + i, x, 3, () -> step.on(x));
                Checks.equal("the state behind call " + i, stateOf(map(), 3), stateBehind(step));
            }
        });
        Sentences.holds(NOTHING, "parse of the signs that there are", () -> {
            SightLegend x = map();
            x.parse();
            x.undo();
            x.undo();
            x.undo();
            x.parse();
            Checks.undone("a second parse", x, 2, x::parse);
        });
        Sentences.holds(NOTHING, "parse of no signs, when there are none", () -> {
            SightLegend x = new SightLegend();
            Checks.undone("parse", x, 0, x::parse);
        });
        atMost();
        everything();
    }

    private static long stateBehind(Step step) {
        SightLegend x = map();
        step.on(x);
        return stateOf(x, 4);
    }

    private static void atMost() {
        Sentences.holds(AT_MOST, "full: four", () -> {
            SightLegend x = new SightLegend();
            Promise26Edges.widths(x, 1, 4);
            Checks.equal("undo", 3, x.undo());
        });
        Sentences.holds(AT_MOST, "a fifth one drops the oldest", () -> {
            SightLegend x = new SightLegend();
            Promise26Edges.widths(x, 1, 5);
            for (int remain = 3; remain >= 0; remain--) {
                Checks.equal("undo", remain, x.undo());
                Checks.equal("value(2)", remain + 1, x.value(2));
            }
            Checks.noState("undo", x, x::undo);
        });
        Sentences.holds(AT_MOST, "calls that change nothing drop the others too", () -> {
            SightLegend x = new SightLegend();
            x.set(2, 1);
            for (int i = 0; i < 4; i++) {
                x.set(3, 5);
            }
            for (int remain = 3; remain >= 0; remain--) {
                Checks.equal("undo", remain, x.undo());
            }
            Checks.equal("value(2)", 1, x.value(2));
        });
        Sentences.holds(AT_MOST, "a refused call drops none", () -> {
            SightLegend x = new SightLegend();
            Promise26Edges.widths(x, 1, 4);
            Checks.noArgument("set", x, () -> x.set(2, 61));
            for (int remain = 3; remain >= 0; remain--) {
                x.undo();
            }
            Checks.equal("value(2)", 20, x.value(2));
        });
    }

    private static void everything() {
        Sentences.holds(EVERYTHING, "each of four changes behind the other, and back again", () -> {
            for (int last = 4; last <= UNDOABLE.length; last++) {
                SightLegend x = behind(last);
                for (int back = 1; back <= 4; back++) {
                    Checks.equal("undo", 4 - back, x.undo());
                    SightLegend want = behind(last - back);
                    int saved = Math.min(3 + last - back, 4);
                    Checks.equal("the state before call " + (last - back), stateOf(want, saved), stateOf(x, 4 - back));
                }
            }
        });
        Sentences.holds(EVERYTHING, "except the sign text: bytes appended stay", () -> {
            SightLegend x = new SightLegend();
            x.set(2, 1);
            x.append('1');
            x.undo();
            Checks.equal("clearText()", 1, x.clearText());
        });
        Sentences.holds(EVERYTHING, "except the sign text: a cleared text does not come back", () -> {
            SightLegend x = Promise23Edges.withText(160);
            x.set(2, 1);
            x.clearText();
            x.undo();
            Checks.equal("clearText()", 0, x.clearText());
        });
        Sentences.holds(EVERYTHING, "except the sign text: its bytes are those of now", () -> {
            SightLegend x = Promise23Edges.withText(10);
            x.parse();
            x.clearText();
            Checks.write(x, "3,50,50,0,0;");
            x.undo();
            Checks.equal("parse()", 1, x.parse());
            Checks.equal("sign(0, 0)", 3, x.sign(0, 0));
        });
    }

    /** The map behind the first so many undoable calls. */
    private static SightLegend behind(int calls) {
        SightLegend x = map();
        for (int i = 0; i < calls; i++) {
            UNDOABLE[i].on(x);
        }
        return x;
    }
}
