/** clearText. */
public final class Promise24Test {
    public static void main(String[] args) {
        SightLegend x = new SightLegend();
        Checks.equal("of no text", 0, x.clearText());
        Checks.write(x, "1,2,3,4,5;");
        Checks.equal("parse()", 1, x.parse());
        Checks.equal("parse leaves the text as it is", 10, x.clearText());
        Checks.equal("twice", 0, x.clearText());
        Checks.equal("the signs stay", 1, x.value(9));
        Checks.equal("clearText is not undoable", 0, x.undo());
        Checks.equal("undo does not bring the text back", 0, x.clearText());
        Checks.write(x, "9");
        Checks.equal("the old bytes are gone", -11, x.parse());
        Checks.end();
    }
}
