import java.math.BigInteger;

/** Promise 27: digest. */
final class Promise27Edges {
    private static final String HASH = "`long digest()`: Returns a hash of the state. Start with h = 3391 and, "
            + "for each of the following values v, set h = 31 * h + v: the length of the text; "
            + "value() for 0 to 11; the ways of all groups; "
            + "for each kind the values of kind() for what = 0 to 9; "
            + "for each sign the values of sign() for what = 0 to 8; "
            + "for each line the values of line() for what = 0 to 7; "
            + "box() for 0 to 5; rounds() for 0 to 2; the number of saved states.";
    private static final String LENGTH = "the length of the text";
    private static final String SAVED = "the number of saved states";
    private static final String RETURNS = "Returns the hash, with the overflow of long arithmetic ignored.";

    private Promise27Edges() {
    }

    static void tests() {
        Sentences.of("Promise 27");
        Sentences.holds(HASH, "empty: no sign, no line, no box", () -> {
            SightLegend x = new SightLegend();
            Checks.equal("digest()", Checks.digestOf(x, 0, 0, 0, 0, 0, 0, 0), x.digest());
        });
        Sentences.holds(HASH, "full: 40 signs, 45 lines, a text of 160 bytes, four saved states", () -> {
            long want = Checks.digestOf(Promise27Edges::fullMap, 160, 4, 1, 0, 0, 0, 1);
            Checks.equal("lines()", 45, fullMap().lines());
            Checks.equal("digest()", want, fullMap().digest());
        });
        Sentences.holds(HASH, "each way at its place", () -> {
            for (int group = 0; group < 5; group++) {
                SightLegend x = new SightLegend();
                int[] ways = new int[5];
                ways[group] = 1;
                x.setWay(group, 1);
                Checks.equal("digest()", Checks.digestOf(x, 0, 1, ways), x.digest());
            }
        });
        Sentences.holds(HASH, "covered signs and signs that are not shown", () -> {
            SightLegend x = Promise10Edges.corners();
            x.addSign(11, 199, 199, 9999, 5);
            Checks.equal("digest()", Checks.digestOf(x, 0, 4, 0, 0, 0, 0, 0), x.digest());
        });
        Sentences.holds(HASH, "an eighth round", () -> {
            SightLegend x = TermsRoundsEdges.coversOneInSight();
            Checks.equal("digest()", Checks.digestOf(x, 0, 4, 0, 0, 0, 0, 0), x.digest());
        });
        Sentences.holds(LENGTH, "not its bytes", () -> {
            SightLegend zero = new SightLegend();
            SightLegend nine = new SightLegend();
            zero.append('0');
            nine.append('9');
            Checks.equal("digest()", zero.digest(), nine.digest());
            nine.append('9');
            Checks.differ("digests of texts of 1 and 2 bytes", zero.digest(), nine.digest());
            Checks.equal("digest()", Checks.digestOf(nine, 2, 0, 0, 0, 0, 0, 0), nine.digest());
        });
        Sentences.holds(SAVED, "0 to 4, and 4 again", () -> {
            int[] saved = {0, 1, 2, 3, 4, 4, 4};
            for (int sets = 0; sets < saved.length; sets++) {
                SightLegend x = new SightLegend();
                Promise26Edges.widths(x, 1, sets);
                Checks.equal("digest()", Checks.digestOf(x, 0, saved[sets], 0, 0, 0, 0, 0), x.digest());
            }
        });
        Sentences.holds(SAVED, "3 behind undo", () -> {
            SightLegend x = new SightLegend();
            Promise26Edges.widths(x, 1, 5);
            x.undo();
            Checks.equal("digest()", Checks.digestOf(x, 0, 3, 0, 0, 0, 0, 0), x.digest());
        });
        Sentences.holds(RETURNS, "wrap-around: the hash of a new object, worked out without overflow", () -> {
            Checks.equal("digest()", ofNewObject().longValue(), new SightLegend().digest());
            Checks.equal("the whole number has more than 64 bits", 1, ofNewObject().bitLength() > 64 ? 1 : 0);
        });
        Sentences.holds(RETURNS, "the call changes nothing", () -> {
            SightLegend x = Promise10Edges.corners();
            Checks.changesNothing("digest", x, x::digest);
        });
    }

    /** The most lines; a kind out of sight keeps the first and the last group from being joined. */
    private static SightLegend fullMap() {
        SightLegend x = Promise13Edges.mostLines();
        x.setKind(10, 10, 0);
        x.setKind(11, 11, 4);
        x.setWay(0, 1);
        x.setWay(4, 1);
        for (int i = 0; i < 160; i++) {
            x.append(127);
        }
        return x;
    }

    /** All values of a new object, as the document tells them, in numbers of any length. */
    private static BigInteger ofNewObject() {
        BigInteger hash = put(BigInteger.valueOf(3391), 0);
        hash = put(hash, 3, 1, 20, 5, 0, 0, 100, 100, 5, 0, 0, 0);
        hash = put(hash, 0, 0, 0, 0, 0);
        for (int kind = 0; kind < 12; kind++) {
            hash = put(hash, kind, -1, 0, -1, -1, -1, -1, -1, 0, 0);
        }
        hash = put(hash, -1, -1, -1, -1, -1, -1);
        hash = put(hash, 2, 1, 0);
        return put(hash, 0);
    }

    private static BigInteger put(BigInteger start, int... values) {
        BigInteger hash = start;
        for (int value : values) {
            hash = hash.multiply(BigInteger.valueOf(31)).add(BigInteger.valueOf(value));
        }
        return hash;
    }
}
