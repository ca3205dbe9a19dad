/** parse, and the syntax error position. */
public final class Promise25Test {
    private static void good(String text, int signs) {
        SightLegend x = new SightLegend();
        x.addSign(7, 1, 1, 1, 1);
        Checks.write(x, text);
        Checks.equal("parse of " + text, signs, x.parse());
        Checks.equal("the signs of " + text, signs, x.value(9));
        Checks.equal("undo of " + text, 1, x.undo());
        Checks.equal("the sign from before " + text, 7, x.sign(0, 0));
        Checks.equal("the text stays " + text, text.length(), x.clearText());
    }

    private static void bad(String text, int position) {
        SightLegend x = new SightLegend();
        x.addSign(7, 1, 1, 1, 1);
        Checks.write(x, text);
        long before = x.digest();
        Checks.equal("parse of " + text, -10 - position, x.parse());
        Checks.equal("nothing has changed by " + text, before, x.digest());
    }

    private static void goodTexts() {
        good("", 0);
        good("0,0,0,0,0;", 1);
        good("11,199,199,9999,5;", 1);
        good("00,000,000,0000,0;01,001,001,0001,1;", 2);
        good("0,0,0,0,0;0,0,0,0,0;0,0,0,0,0;0,0,0,0,0;0,0,0,0,0;0,0,0,0,0;0,0,0,0,0;0,0,0,0,0;"
                + "0,0,0,0,0;0,0,0,0,0;0,0,0,0,0;0,0,0,0,0;0,0,0,0,0;0,0,0,0,0;0,0,0,0,0;0,0,0,0,0;", 16);
        SightLegend x = new SightLegend();
        x.set(0, 5);
        x.limit(9, 30);
        Checks.write(x, "9,10,20,30,4;010,0,0,0,0;");
        Checks.equal("a kind of three digits", -10 - 15, x.parse());
        Checks.write(x, "9,10,20,30,4;10,099,98,0097,0;");
        Checks.equal("two signs", 2, x.parse());
        int[][] facts = {{9, 10, 20, 30, 4, 1}, {10, 99, 98, 97, 0, 0}};
        for (int sign = 0; sign < 2; sign++) {
            for (int what = 0; what < 6; what++) {
                Checks.equal("sign(" + sign + ", " + what + ")", facts[sign][what], x.sign(sign, what));
            }
        }
        Checks.equal("the settings stay", 5, x.value(0));
        Checks.equal("the limits stay", 1, x.kind(9, 2));
        Checks.equal("lines()", 2, x.lines());
    }

    private static void wrongBytes() {
        bad("x", 0);
        bad(";", 0);
        bad(",", 0);
        bad(" 1,1,1,1,1;", 0);
        bad("1 ,1,1,1,1;", 1);
        bad("1;", 1);
        bad("1,,", 2);
        bad("1,1,1,1;", 7);
        bad("1,1,1,1,;", 8);
        bad("1,1,1,1,6;", 8);
        bad("1,1,1,1,9", 8);
        bad("1,1,1,1,55;", 9);
        bad("1,1,1,1,5,", 9);
        bad("1,1,1,1,5;;", 10);
        bad("1,1,1,1,5;x", 10);
        bad("1,1,1,1,5;1,1,1,1,-", 18);
        bad("-1,1,1,1,1;", 0);
        bad("1,1,1,1,1;/", 10);
        bad("1,1,1,1,1;:", 10);
        bad("\0", 0);
    }

    private static void tooManyDigits() {
        bad("111,", 2);
        bad("120", 2);
        bad("1,0001,", 5);
        bad("1,2000,", 5);
        bad("1,1,0199,", 7);
        bad("1,1,1,00000,", 10);
    }

    private static void outOfRange() {
        bad("12,", 0);
        bad("12", 0);
        bad("12;", 0);
        bad("99x", 0);
        bad("1,200,", 2);
        bad("1,999", 2);
        bad("1,200x", 2);
        bad("1,1,200,", 4);
        bad("1,1,999;", 4);
        bad("1,1,200", 4);
        bad("1,1,1,1,1;12,", 10);
    }

    private static void tooEarly() {
        bad("1", 1);
        bad("11", 2);
        bad("1,", 2);
        bad("1,1", 3);
        bad("1,19", 4);
        bad("1,1,", 4);
        bad("1,1,1,", 6);
        bad("1,1,1,1", 7);
        bad("1,1,1,1,", 8);
        bad("1,1,1,1,1", 9);
        bad("1,1,1,1,1;1", 11);
    }

    public static void main(String[] args) {
        goodTexts();
        wrongBytes();
        tooManyDigits();
        outOfRange();
        tooEarly();
        Checks.end();
    }
}
