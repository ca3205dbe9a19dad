import java.util.function.DoubleSupplier;

/** Long mixed runs of calls, answered by SightLegend and by Model alike. */
public final class ModelTest {
    private static final int RUNS = 240;
    private static final int CALLS = 500;

    private static long seed;
    private static int wrong = 0;

    /** A number from low to high, of a fixed sequence. */
    private static int pick(int low, int high) {
        seed = seed * 6364136223846793005L + 1442695040888963407L;
        return low + (int) ((seed >>> 33) % (high - low + 1));
    }

    /** Mostly a number in the range, now and then one just outside or far away. */
    private static int near(int low, int high) {
        switch (pick(0, 60)) {
            case 0:
                return low - 1;
            case 1:
                return high + 1;
            case 2:
                return pick(0, 1) == 0 ? Integer.MIN_VALUE : Integer.MAX_VALUE;
            case 3:
                return low;
            case 4:
                return high;
            default:
                return pick(low, high);
        }
    }

    private static Object answer(DoubleSupplier call) {
        try {
            return call.getAsDouble();
        } catch (RuntimeException e) {
            return e.getClass().getName();
        }
    }

    private static void same(int run, int call, String name, DoubleSupplier x, DoubleSupplier m) {
        Object got = answer(x);
        Object want = answer(m);
        if (!want.equals(got)) {
            wrong++;
            if (wrong < 20) {
                System.out.println("run " + run + ", call " + call + ": " + name + " answered " + got + ", due is " + want);
            }
        }
    }

    private static void change(int run, int i, SightLegend x, Model m) {
        int crowd = run % 3 == 0 ? 199 : run % 3 == 1 ? 60 : 25;
        int kinds = run % 2 == 0 ? 11 : 4;
        int a = near(0, kinds);
        int b = near(0, crowd);
        int c = near(0, crowd);
        int v = near(0, run % 5 == 0 ? 9999 : 12);
        int e = near(0, 5);
        int n = m.signs.size();
        switch (pick(0, 13)) {
            case 0: case 1: case 2: case 3: case 4: case 5:
                same(run, i, "addSign", () -> x.addSign(a, b, c, v, e), () -> m.addSign(a, b, c, v, e));
                break;
            case 6: {
                int s = near(0, Math.max(n - 1, 0));
                same(run, i, "removeSign", () -> x.removeSign(s), () -> m.removeSign(s));
                break;
            }
            case 7: {
                int s = near(0, Math.max(n - 1, 0));
                same(run, i, "moveSign", () -> x.moveSign(s, b, c), () -> m.moveSign(s, b, c));
                break;
            }
            case 8: {
                int l = near(0, run % 3 == 0 ? 199 : 10);
                int t = near(0, run % 3 == 0 ? 199 : 10);
                int w = near(10, run % 3 == 0 ? 200 : 60);
                int h = near(10, run % 3 == 0 ? 200 : 60);
                int z = near(3, 5);
                same(run, i, "setWindow", () -> x.setWindow(l, t, w, h, z), () -> m.setWindow(l, t, w, h, z));
                break;
            }
            case 9: {
                int w = near(0, 3);
                int top = w >= 0 && w < 4 ? new int[] {6, 4, 60, 20}[w] : 9;
                int value = near(1, w >= 2 && pick(0, 2) > 0 ? 8 : top);
                same(run, i, "set", () -> x.set(w, value), () -> m.set(w, value));
                break;
            }
            case 10: {
                int r = near(0, pick(0, 1) == 0 ? 99 : 3);
                int g = near(-1, run % 4 == 0 ? 4 : 1);
                same(run, i, "setKind", () -> x.setKind(a, r, g), () -> m.setKind(a, r, g));
                break;
            }
            case 11: {
                int g = near(0, pick(0, 1) == 0 ? 4 : 1);
                int w = near(0, 1);
                same(run, i, "setWay", () -> x.setWay(g, w), () -> m.setWay(g, w));
                break;
            }
            case 12: {
                int l = near(1, run % 5 == 0 ? 9999 : 12);
                same(run, i, "limit", () -> x.limit(a, l), () -> m.limit(a, l));
                break;
            }
            default:
                if (pick(0, 3) == 0) {
                    same(run, i, "undo", x::undo, m::undo);
                }
                break;
        }
    }

    /** Many signs of many kinds in a small window, so that many rounds are made. */
    private static void crowd(int run, SightLegend x, Model m) {
        int[] settings = {pick(1, 6), pick(1, 4), pick(4, 10), pick(2, 5)};
        same(run, 0, "setWindow", () -> x.setWindow(0, 0, 20, 20, 5), () -> m.setWindow(0, 0, 20, 20, 5));
        for (int what = 0; what < 4; what++) {
            int w = what;
            same(run, 0, "set", () -> x.set(w, settings[w]), () -> m.set(w, settings[w]));
        }
        for (int i = 0; i < 40; i++) {
            int k = pick(0, 11);
            int c = pick(0, 30);
            int r = pick(0, 30);
            same(run, 0, "addSign", () -> x.addSign(k, c, r, 0, 0), () -> m.addSign(k, c, r, 0, 0));
        }
    }

    private static void ask(int run, int i, SightLegend x, Model m) {
        int n = Math.max(m.signs.size() - 1, 0);
        switch (pick(0, 14)) {
            case 0: {
                int w = near(0, 11);
                same(run, i, "value", () -> x.value(w), () -> m.value(w));
                break;
            }
            case 1: {
                int s = near(0, n);
                int w = near(0, 8);
                same(run, i, "sign", () -> x.sign(s, w), () -> m.sign(s, w));
                break;
            }
            case 2: {
                int k = near(0, 11);
                int w = near(0, 9);
                same(run, i, "kind", () -> x.kind(k, w), () -> m.kind(k, w));
                break;
            }
            case 3:
                same(run, i, "lines", x::lines, m::lines);
                break;
            case 4: {
                int l = near(0, Math.max(m.lines() - 1, 0));
                int w = near(0, 7);
                same(run, i, "line", () -> x.line(l, w), () -> m.line(l, w));
                break;
            }
            case 5: {
                int w = near(0, 5);
                same(run, i, "box", () -> x.box(w), () -> m.box(w));
                break;
            }
            case 6: {
                int w = near(0, 2);
                same(run, i, "rounds", () -> x.rounds(w), () -> m.rounds(w));
                break;
            }
            case 7:
                same(run, i, "firstLines", x::firstLines, m::firstLines);
                break;
            case 8:
                same(run, i, "explained", x::explained, m::explained);
                break;
            case 9: {
                int l = near(0, run % 3 == 0 ? 199 : 30);
                int t = near(0, run % 3 == 0 ? 199 : 30);
                same(run, i, "linesAt", () -> x.linesAt(l, t), () -> m.linesAt(l, t));
                break;
            }
            case 10:
                same(run, i, "bestColumns", x::bestColumns, m::bestColumns);
                break;
            case 11: {
                int k = near(0, 11);
                same(run, i, "zoomFor", () -> x.zoomFor(k), () -> m.zoomFor(k));
                break;
            }
            case 12: {
                int s = near(0, n);
                same(run, i, "linesSaved", () -> x.linesSaved(s), () -> m.linesSaved(s));
                break;
            }
            default:
                if (x.digest() != m.digest()) {
                    same(run, i, "digest", () -> 1, () -> 0);
                }
                break;
        }
    }

    /** A text of signs, in which now and then a byte is wrong, missing or too many. */
    private static String someText() {
        StringBuilder t = new StringBuilder();
        int count = pick(0, 6);
        for (int i = 0; i < count; i++) {
            t.append(pick(0, 11)).append(',').append(pick(0, 40)).append(',').append(pick(0, 199)).append(',')
                    .append(pick(0, 12)).append(',').append(pick(0, 5)).append(';');
        }
        for (int faults = pick(0, 2); faults > 0 && t.length() > 0; faults--) {
            int at = pick(0, t.length() - 1);
            switch (pick(0, 3)) {
                case 0:
                    t.deleteCharAt(at);
                    break;
                case 1:
                    t.insert(at, (char) ('0' + pick(0, 9)));
                    break;
                case 2:
                    t.setCharAt(at, ",;0129/:x".charAt(pick(0, 8)));
                    break;
                default:
                    t.setLength(at);
                    break;
            }
        }
        return t.toString();
    }

    private static int read(int run, int i, SightLegend x, Model m) {
        String t = someText();
        same(run, i, "clearText", x::clearText, m::clearText);
        for (int at = 0; at < t.length(); at++) {
            char b = t.charAt(at);
            same(run, i, "append", () -> x.append(b), () -> m.append(b));
        }
        same(run, i, "parse of " + t, x::parse, m::parse);
        return t.length() + 2;
    }

    public static void main(String[] args) {
        for (int run = 0; run < RUNS; run++) {
            seed = run + 1;
            SightLegend x = new SightLegend();
            Model m = new Model();
            int i = 0;
            if (run % 4 == 2) {
                crowd(run, x, m);
                i = 45;
            }
            while (i < CALLS) {
                int kind = pick(0, 99);
                if (kind < 60) {
                    change(run, i, x, m);
                    i++;
                } else if (kind < 99) {
                    ask(run, i, x, m);
                    i++;
                } else if (run % 4 == 3 && i < CALLS - 170) {
                    i += read(run, i, x, m);
                }
            }
        }
        System.out.println(RUNS + " runs of calls, " + wrong + " answers are not those of the model");
        if (wrong != 0) {
            System.exit(1);
        }
    }
}
