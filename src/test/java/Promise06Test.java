/** set. */
public final class Promise06Test {
    public static void main(String[] args) {
        SightLegend x = new SightLegend();
        Checks.noArgument("what -1", x, () -> x.set(-1, 1));
        Checks.noArgument("what 4", x, () -> x.set(4, 1));
        int[] initial = {3, 1, 20, 5};
        int[] highest = {6, 4, 60, 20};
        for (int what = 0; what < 4; what++) {
            int w = what;
            Checks.noArgument("0 of setting " + w, x, () -> x.set(w, 0));
            Checks.noArgument("too much of setting " + w, x, () -> x.set(w, highest[w] + 1));
            Checks.noArgument("far too little of setting " + w, x, () -> x.set(w, Integer.MIN_VALUE));
            Checks.equal("the first answer of setting " + w, initial[w], x.set(w, highest[w]));
            Checks.equal("value(" + w + ")", highest[w], x.value(w));
            Checks.equal("the second answer of setting " + w, highest[w], x.set(w, 1));
            Checks.equal("value(" + w + ") then", 1, x.value(w));
        }
        Checks.equal("undo", 3, x.undo());
        Checks.equal("value(3) behind undo", 20, x.value(3));
        Checks.equal("undo", 2, x.undo());
        Checks.equal("value(3) behind two undos", 5, x.value(3));
        Checks.equal("value(2) stays", 1, x.value(2));
        Checks.end();
    }
}
