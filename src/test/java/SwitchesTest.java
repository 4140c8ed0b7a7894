/** Promises 14 to 16: factor, outcome, share. */
public final class SwitchesTest {
    private static final int BAD = -1000000;
    private static final int[] FAR = {Integer.MIN_VALUE, -1, Integer.MAX_VALUE};

    public static void main(String[] args) {
        atFirst();
        outcomes();
        shares();
        allSharesAreTheChange();
        refused();
        Due.end();
    }

    private static void atFirst() {
        SumMoved x = new SumMoved();
        for (int i = 0; i < 5; i++) {
            Due.is("share(" + i + ", 0) at first", x.share(i, 0), 0);
            Due.is("share(" + i + ", 1) at first", x.share(i, 1), 1);
        }
        Due.is("outcome(0) at first", x.outcome(0), 0);
        Due.is("outcome(31) at first", x.outcome(31), 0);
    }

    private static SumMoved set() {
        SumMoved x = new SumMoved();
        Due.is("factor 0", x.factor(0, 2, 11), 1);
        Due.is("factor 1", x.factor(1, 3, 13), 1);
        Due.is("factor 2", x.factor(2, 5, 17), 1);
        Due.is("factor 3", x.factor(3, 7, -19), 1);
        Due.is("factor 4", x.factor(4, -99, 99), 1);
        return x;
    }

    private static void outcomes() {
        SumMoved x = set();
        int[] want = {-58, -31, -38, 79, 26, 53, 46, 163, -188, -161, -168, -51, -416, -389, -396, -279};
        for (int set = 0; set < 16; set++) {
            Due.is("outcome(" + set + ")", x.outcome(set), want[set]);
            Due.is("outcome(" + (set + 16) + ")", x.outcome(set + 16), want[set] + 198);
        }
        x.factor(0, 1, 1);
        Due.is("outcome after a factor is set again", x.outcome(0), -61);
        Due.is("outcome of it after", x.outcome(1), -61);
    }

    private static void shares() {
        SumMoved x = set();
        int[][] want = {{72, 1}, {65, 1}, {-72, 1}, {-286, 1}, {198, 1}};
        for (int i = 0; i < 5; i++) {
            Due.is("share(" + i + ", 0)", x.share(i, 0), want[i][0]);
            Due.is("share(" + i + ", 1)", x.share(i, 1), want[i][1]);
        }
        x.factor(1, 3, 14);
        Due.is("a half, upper", x.share(0, 0), 153);
        Due.is("a half, lower", x.share(0, 1), 2);
        x.factor(0, 11, 2);
        Due.is("a half under 0, upper", x.share(0, 0), -153);
        Due.is("a half under 0, lower", x.share(0, 1), 2);
        x.factor(0, -99, 99);
        x.factor(1, 99, 99);
        Due.is("the greatest", x.share(0, 0), 19602);
        Due.is("the greatest, lower", x.share(0, 1), 1);
    }

    private static void allSharesAreTheChange() {
        SumMoved x = new SumMoved();
        for (int turn = 0; turn < 40; turn++) {
            x.factor(turn % 5, turn * 53 % 199 - 99, turn * 89 % 199 - 99);
            Ratio all = Ratio.of(0, 1);
            for (int i = 0; i < 5; i++) {
                all = all.plus(Ratio.of(x.share(i, 0), x.share(i, 1)));
            }
            Due.is("all shares, upper", all.tell(0), x.outcome(31) - x.outcome(0));
            Due.is("all shares, lower", all.tell(1), 1);
        }
    }

    private static void refused() {
        SumMoved x = set();
        for (int far : FAR) {
            Due.is("factor " + far, x.factor(far, 0, 0), -1);
            Due.is("outcome " + far, x.outcome(far), BAD);
            Due.is("share of " + far, x.share(far, 0), BAD);
            Due.is("share, what " + far, x.share(0, far), BAD);
        }
        Due.is("factor 5", x.factor(5, 0, 0), -1);
        Due.is("factor, before 100", x.factor(0, 100, 0), -1);
        Due.is("factor, before -100", x.factor(0, -100, 0), -1);
        Due.is("factor, after 100", x.factor(0, 0, 100), -1);
        Due.is("factor, after -100", x.factor(0, 0, -100), -1);
        Due.is("outcome 32", x.outcome(32), BAD);
        Due.is("share of 5", x.share(5, 0), BAD);
        Due.is("share, what 2", x.share(0, 2), BAD);
        Due.is("outcome after refusals", x.outcome(0), -58);
        Due.is("outcome after refusals", x.outcome(31), -81);
    }
}
