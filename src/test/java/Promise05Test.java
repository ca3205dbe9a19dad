/** setWindow, and which signs are shown. */
public final class Promise05Test {
    public static void main(String[] args) {
        SightLegend x = new SightLegend();
        int[][] wrong = {
            {-1, 0, 10, 10, 0}, {200, 0, 10, 10, 0}, {0, -1, 10, 10, 0}, {0, 200, 10, 10, 0},
            {0, 0, 9, 10, 0}, {0, 0, 201, 10, 0}, {0, 0, 10, 9, 0}, {0, 0, 10, 201, 0},
            {0, 0, 10, 10, -1}, {0, 0, 10, 10, 6}, {0, 0, Integer.MAX_VALUE, 10, 0},
        };
        for (int[] a : wrong) {
            Checks.noArgument("a wrong window", x, () -> x.setWindow(a[0], a[1], a[2], a[3], a[4]));
        }
        Checks.noState("a call that throws saves nothing", x, x::undo);
        x.addSign(0, 20, 30, 0, 0);
        x.addSign(0, 29, 41, 0, 3);
        x.addSign(0, 19, 35, 0, 0);
        x.addSign(0, 30, 35, 0, 0);
        x.addSign(0, 25, 29, 0, 0);
        x.addSign(0, 25, 42, 0, 0);
        x.addSign(0, 25, 35, 0, 4);
        Checks.equal("setWindow", 2, x.setWindow(20, 30, 10, 12, 3));
        int[] shown = {1, 1, 0, 0, 0, 0, 0};
        for (int sign = 0; sign < 7; sign++) {
            Checks.equal("sign(" + sign + ", 6)", shown[sign], x.sign(sign, 6));
        }
        int[] values = {20, 30, 10, 12, 3};
        for (int what = 0; what < 5; what++) {
            Checks.equal("value of the window " + what, values[what], x.value(4 + what));
        }
        Checks.equal("the shown signs", 2, x.value(10));
        Checks.equal("a smaller zoom", 1, x.setWindow(20, 30, 10, 12, 2));
        Checks.equal("a larger zoom", 3, x.setWindow(20, 30, 10, 12, 4));
        Checks.equal("the last corner", 0, x.setWindow(199, 199, 10, 10, 0));
        Checks.equal("the largest window", 7, x.setWindow(0, 0, 200, 200, 5));
        Checks.equal("undo", 3, x.undo());
        Checks.equal("left behind undo", 199, x.value(4));
        Checks.equal("undo", 2, x.undo());
        Checks.equal("zoom behind undo", 4, x.value(8));
        Checks.end();
    }
}
