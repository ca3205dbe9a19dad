/** Terms: the sign text, and the syntax error position. */
final class TermsTextEdges {
    private static final String BYTES = "The text has at most 160 bytes.";
    private static final String SIGNS = "It is a sequence of signs, each terminated by a semicolon: "
            + "the kind (one or two digits), a comma, the column, a comma, the row, a comma, "
            + "the value (one to four digits; columns and rows one to three; zeros in front are allowed), a comma, "
            + "and the level (a digit 0 to 5).";
    private static final String DIGITS = "(one to four digits; columns and rows one to three; "
            + "zeros in front are allowed)";
    private static final String NO_SPACES = "There are no spaces";
    private static final String NO_SIGNS = "there may be no signs.";
    private static final String POSITION = "The syntax error position is the index of the first byte that cannot "
            + "stand where it stands";
    private static final String TOO_MANY = "(a digit too many, the first digit of a 41st sign, too)";
    private static final String TOO_EARLY = "or the length of the text if the text ends too early.";
    private static final String OUT_OF_RANGE =
            "For a kind, a column or a row that is out of its range it is the index of its first digit";
    private static final String WHICHEVER =
            "found when a byte that is no digit, whichever it is, or the end of the text, follows it.";
    private static final String ALL_DIGITS = "0123456789";

    private TermsTextEdges() {
    }

    private static SightLegend with(String text) {
        SightLegend x = new SightLegend();
        for (int i = 0; i < text.length(); i++) {
            x.append(text.charAt(i));
        }
        return x;
    }

    private static void good(String text, int signs) {
        Checks.equal("parse of " + text, signs, with(text).parse());
    }

    private static void error(String text, int position) {
        Checks.equal("parse of " + text, -10 - position, with(text).parse());
    }

    /** Of all bytes, these alone can stand behind this text; none of them ends a sign. */
    private static void next(String text, String can) {
        for (char b = 0; b < 128; b++) {
            error(text + b, can.indexOf(b) >= 0 ? text.length() + 1 : text.length());
        }
    }

    static void tests() {
        Sentences.of("Terms");
        Sentences.holds(BYTES, "full: the 161st is refused", () -> {
            SightLegend x = Promise23Edges.withText(160);
            Checks.noState("append", x, () -> x.append(48));
            Checks.equal("clearText()", 160, x.clearText());
        });
        sequence();
        position();
        tooMany();
        Sentences.holds(TOO_EARLY, "behind each byte of a sign but the last", () -> {
            String text = "11,199,199,9999,5;";
            for (int length = 1; length < text.length(); length++) {
                error(text.substring(0, length), length);
            }
        });
        Sentences.holds(TOO_EARLY, "behind each byte of a second sign but the last", () -> {
            String text = "0,0,0,0,0;7,0,00,000,0;";
            for (int length = 11; length < text.length(); length++) {
                error(text.substring(0, length), length);
            }
        });
        Sentences.holds(TOO_EARLY, "full: at 160", () -> {
            SightLegend x = Promise23Edges.withText(150);
            for (char b : "7,1,1,1000".toCharArray()) {
                x.append(b);
            }
            Checks.equal("parse()", -10 - 160, x.parse());
        });
        outOfRange();
    }

    private static void sequence() {
        Sentences.holds(SIGNS, "the fewest digits", () -> {
            SightLegend x = with("9,8,7,6,5;");
            Checks.equal("parse()", 1, x.parse());
            Checks.sign(x, 0, 9, 8, 7, 6, 5);
        });
        Sentences.holds(SIGNS, "the most digits", () -> {
            SightLegend x = with("11,199,198,9999,5;");
            Checks.equal("parse()", 1, x.parse());
            Checks.sign(x, 0, 11, 199, 198, 9999, 5);
        });
        Sentences.holds(SIGNS, "the last semicolon is missing", () -> error("9,8,7,6,5;9,8,7,6,5", 19));
        Sentences.holds(SIGNS, "each level and each kind", () -> {
            for (int level = 0; level <= 5; level++) {
                good("0,0,0,0," + level + ";", 1);
            }
            for (int kind = 0; kind <= 11; kind++) {
                SightLegend x = with(kind + ",0,0,0,0;");
                Checks.equal("parse()", 1, x.parse());
                Checks.equal("sign(0, 0)", kind, x.sign(0, 0));
            }
        });
        Sentences.holds(DIGITS, "zeros in front", () -> {
            SightLegend x = with("00,000,000,0000,0;07,008,099,0010,5;");
            Checks.equal("parse()", 2, x.parse());
            Checks.sign(x, 0, 0, 0, 0, 0, 0);
            Checks.sign(x, 1, 7, 8, 99, 10, 5);
        });
        Sentences.holds(DIGITS, "one digit at least of each number", () -> {
            error(",0,0,0,0;", 0);
            error("0,,0,0,0;", 2);
            error("0,0,,0,0;", 4);
            error("0,0,0,,0;", 6);
            error("0,0,0,0,;", 8);
        });
        Sentences.holds(NO_SPACES, "nowhere", () -> {
            String text = "9,8,7,6,5;";
            for (int at = 0; at <= text.length(); at++) {
                error(text.substring(0, at) + ' ' + text.substring(at), at);
            }
        });
        Sentences.holds(NO_SIGNS, "empty", () -> good("", 0));
    }

    private static void position() {
        Sentences.holds(POSITION, "at the beginning: digits alone", () -> next("", ALL_DIGITS));
        Sentences.holds(POSITION, "behind a kind's first digit: digits and a comma", () -> next("0", ALL_DIGITS + ","));
        Sentences.holds(POSITION, "behind a kind of two digits: a comma alone", () -> {
            next("11", ",");
            next("09", ",");
        });
        Sentences.holds(POSITION, "behind a kind: digits alone", () -> next("11,", ALL_DIGITS));
        Sentences.holds(POSITION, "in a column: digits and a comma", () -> {
            next("1,1", ALL_DIGITS + ",");
            next("1,19", ALL_DIGITS + ",");
        });
        Sentences.holds(POSITION, "behind a column of three digits: a comma alone", () -> next("1,199", ","));
        Sentences.holds(POSITION, "behind a column: digits alone", () -> next("1,199,", ALL_DIGITS));
        Sentences.holds(POSITION, "in a row: digits and a comma", () -> {
            next("1,1,1", ALL_DIGITS + ",");
            next("1,1,19", ALL_DIGITS + ",");
        });
        Sentences.holds(POSITION, "behind a row of three digits: a comma alone", () -> next("1,1,199", ","));
        Sentences.holds(POSITION, "behind a row: digits alone", () -> next("1,1,199,", ALL_DIGITS));
        Sentences.holds(POSITION, "in a value: digits and a comma", () -> {
            next("1,1,1,9", ALL_DIGITS + ",");
            next("1,1,1,99", ALL_DIGITS + ",");
            next("1,1,1,999", ALL_DIGITS + ",");
        });
        Sentences.holds(POSITION, "behind a value of four digits: a comma alone", () -> next("1,1,1,9999", ","));
        Sentences.holds(POSITION, "behind a value: the digits 0 to 5 alone", () -> next("1,1,1,9999,", "012345"));
        Sentences.holds(POSITION, "behind a level: a semicolon alone", () -> {
            for (char b = 0; b < 128; b++) {
                int answer = b == ';' ? 1 : -10 - 9;
                Checks.equal("parse with byte " + (int) b, answer, with("1,1,1,1,5" + b).parse());
            }
        });
        Sentences.holds(POSITION, "behind a sign: digits alone", () -> next("1,1,1,1,5;", ALL_DIGITS));
        Sentences.holds(POSITION, "the first of several wrong bytes", () -> {
            error("x1,1,1,1,9;", 0);
            error("1,1,x,1,9;", 4);
            error("1,1,1,1,9x", 8);
            error("1,1,1,1,5x12,", 9);
        });
    }

    private static void tooMany() {
        Sentences.holds(TOO_MANY, "a third digit of a kind", () -> {
            error("000,", 2);
            error("111", 2);
            error("129,", 2);
            error("999999", 2);
        });
        Sentences.holds(TOO_MANY, "a fourth digit of a column", () -> {
            error("1,0000,", 5);
            error("1,1999", 5);
            error("1,2000,", 5);
        });
        Sentences.holds(TOO_MANY, "a fourth digit of a row", () -> {
            error("1,1,0000,", 7);
            error("1,1,1999", 7);
            error("1,1,9999,", 7);
        });
        Sentences.holds(TOO_MANY, "a fifth digit of a value", () -> {
            error("1,1,1,00000,", 10);
            error("1,1,1,10000", 10);
        });
        Sentences.holds(TOO_MANY, "a second digit of a level", () -> {
            error("1,1,1,1,00;", 9);
            error("1,1,1,1,55", 9);
        });
        // sixteen signs fill the text, so a 41st one can't be met; a 17th one is no error
        Sentences.holds(TOO_MANY, "as many signs as a text can have are not too many", () ->
                Checks.equal("parse()", 16, Promise23Edges.withText(160).parse()));
    }

    /** The number is out of its range, whatever byte that is no digit follows it. */
    private static void outside(String before, String number) {
        error(before + number, before.length());
        for (char b = 0; b < 128; b++) {
            int position = ALL_DIGITS.indexOf(b) >= 0 ? before.length() + number.length() : before.length();
            error(before + number + b, position);
        }
    }

    private static void outOfRange() {
        Sentences.holds(OUT_OF_RANGE, "a kind just too large, and the largest one", () -> {
            error("12,1,1,1,1;", 0);
            error("99,1,1,1,1;", 0);
            good("11,1,1,1,1;", 1);
        });
        Sentences.holds(OUT_OF_RANGE, "a column just too large, and the largest one", () -> {
            error("1,200,1,1,1;", 2);
            error("11,999,1,1,1;", 3);
            good("1,199,1,1,1;", 1);
        });
        Sentences.holds(OUT_OF_RANGE, "a row just too large, and the largest one", () -> {
            error("1,1,200,1,1;", 4);
            error("11,199,999,1,1;", 7);
            good("1,1,199,1,1;", 1);
        });
        Sentences.holds(OUT_OF_RANGE, "of the first of several", () -> error("12,200,200,1,6;", 0));
        Sentences.holds(OUT_OF_RANGE, "in a second sign", () -> {
            error("1,1,1,1,1;12,1,1,1,1;", 10);
            error("1,1,1,1,1;1,200,1,1,1;", 12);
            error("1,1,1,1,1;1,1,200,1,1;", 14);
        });
        Sentences.holds(OUT_OF_RANGE, "a value or a level is never: a level from 6 on cannot stand at all", () -> {
            good("1,1,1,9999,5;", 1);
            error("1,1,1,9999,6;", 11);
            error("1,1,1,9999,6", 11);
        });
        Sentences.holds(WHICHEVER, "of a kind", () -> {
            outside("", "12");
            outside("", "99");
            outside("1,1,1,1,1;", "20");
        });
        Sentences.holds(WHICHEVER, "of a column", () -> {
            outside("1,", "200");
            outside("1,", "999");
        });
        Sentences.holds(WHICHEVER, "of a row", () -> {
            outside("1,1,", "200");
            outside("1,1,", "999");
        });
        Sentences.holds(WHICHEVER, "a number that is still in its range is not wrong by a wrong byte", () -> {
            error("11x", 2);
            error("1,199x", 5);
            error("1,1,199x", 7);
            error("1,20x", 4);
        });
        Sentences.holds(WHICHEVER, "the end of a full text", () -> {
            SightLegend x = Promise23Edges.withText(150);
            for (char b : "07,001,200".toCharArray()) {
                x.append(b);
            }
            Checks.equal("parse()", -10 - 157, x.parse());
        });
    }
}
