/** append. */
public final class Promise23Test {
    public static void main(String[] args) {
        SightLegend x = new SightLegend();
        Checks.noArgument("byte -1", x, () -> x.append(-1));
        Checks.noArgument("byte 128", x, () -> x.append(128));
        Checks.equal("byte 0", 1, x.append(0));
        Checks.equal("byte 127", 2, x.append(127));
        Checks.noState("append is not undoable", x, x::undo);
        Checks.equal("clearText()", 2, x.clearText());
        for (int i = 1; i <= 160; i++) {
            Checks.equal("byte " + i, i, x.append("0,0,0,0,0;".charAt((i - 1) % 10)));
        }
        Checks.noState("a full text", x, () -> x.append(0));
        Checks.noArgument("a full text and a wrong byte", x, () -> x.append(128));
        Checks.equal("the text is as it was", 16, x.parse());
        Checks.equal("the whole length", 160, x.clearText());
        Checks.equal("room again", 1, x.append(48));
        Checks.end();
    }
}
