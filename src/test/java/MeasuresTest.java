/** Promises 6 to 9: sum, change, rate, shift. */
public final class MeasuresTest {
    private static final int BAD = -1000000;
    private static final int[] FAR = {Integer.MIN_VALUE, -1, Integer.MAX_VALUE};

    public static void main(String[] args) {
        sums();
        heaps();
        sumRefused();
        changes();
        rates();
        shifts();
        Due.end();
    }

    private static int marks(int mark0, int mark1, int mark2) {
        return mark0 + 8 * mark1 + 64 * mark2;
    }

    private static int heap(int digit0, int digit1, int digit2) {
        return digit0 + 9 * digit1 + 81 * digit2;
    }

    private static void sums() {
        SumMoved x = new SumMoved();
        x.row(1, 10, 4, 5, marks(0, 1, 2));
        x.row(2, -3, 0, 5, marks(0, 1, 3));
        x.row(3, 20, 2, 63, marks(0, 2, 2));
        x.row(101, 99, 9, 0, marks(0, 1, 2));
        int[] want0 = {27, 3, 6, 2}, want1 = {99, 1, 9, 1};
        for (int measure = 0; measure < 4; measure++) {
            Due.is("month 0, measure " + measure, x.sum(0, 0, measure), want0[measure]);
            Due.is("month 1, measure " + measure, x.sum(0, 1, measure), want1[measure]);
        }
        x.strike(1, 1);
        int[] wantLess = {30, 2, 6, 2};
        for (int measure = 0; measure < 4; measure++) {
            Due.is("one struck, measure " + measure, x.sum(0, 0, measure), wantLess[measure]);
        }
    }

    private static void heaps() {
        SumMoved x = new SumMoved();
        x.row(1, 1, 1, 1, marks(0, 0, 0));
        x.row(1, 2, 1, 1, marks(7, 0, 0));
        x.row(1, 4, 1, 1, marks(0, 7, 0));
        x.row(1, 8, 1, 1, marks(0, 0, 7));
        x.row(1, 16, 1, 1, marks(7, 7, 7));
        x.row(1, 32, 1, 1, marks(3, 4, 5));
        int[][] want = {{0, 63}, {heap(1, 0, 0), 13}, {heap(0, 1, 0), 11}, {heap(0, 0, 1), 7}, {heap(8, 0, 0), 18},
            {heap(0, 8, 0), 20}, {heap(0, 0, 8), 24}, {heap(1, 1, 0), 9}, {heap(0, 1, 1), 3}, {heap(1, 0, 1), 5},
            {heap(1, 1, 1), 1}, {728, 16}, {heap(4, 5, 6), 32}, {heap(4, 5, 0), 32}, {heap(0, 5, 6), 32},
            {heap(5, 4, 6), 0}, {heap(2, 0, 0), 0}};
        for (int[] w : want) {
            Due.is("sum of heap " + w[0], x.sum(w[0], 0, 0), w[1]);
            Due.is("count of heap " + w[0], x.sum(w[0], 0, 1), Integer.bitCount(w[1]));
            Due.is("month 1 of heap " + w[0], x.sum(w[0], 1, 0), 0);
        }
    }

    private static void sumRefused() {
        SumMoved x = new SumMoved();
        for (int far : FAR) {
            Due.is("sum, heap " + far, x.sum(far, 0, 0), BAD);
            Due.is("sum, month " + far, x.sum(0, far, 0), BAD);
            Due.is("sum, measure " + far, x.sum(0, 0, far), BAD);
            Due.is("change, heap " + far, x.change(far, 0), BAD);
            Due.is("change, measure " + far, x.change(0, far), BAD);
            Due.is("rate, heap " + far, x.rate(far, 0, 0), BAD);
            Due.is("rate, month " + far, x.rate(0, far, 0), BAD);
            Due.is("rate, what " + far, x.rate(0, 0, far), BAD);
        }
        Due.is("sum, heap 729", x.sum(729, 0, 0), BAD);
        Due.is("sum, month 2", x.sum(0, 2, 0), BAD);
        Due.is("sum, measure 4", x.sum(0, 0, 4), BAD);
        Due.is("change, heap 729", x.change(729, 0), BAD);
        Due.is("change, measure 4", x.change(0, 4), BAD);
        Due.is("rate, heap 729", x.rate(729, 0, 0), BAD);
        Due.is("rate, month 2", x.rate(0, 2, 0), BAD);
        Due.is("rate, what 2", x.rate(0, 0, 2), BAD);
    }

    private static void changes() {
        SumMoved x = new SumMoved();
        x.row(1, 10, 4, 5, 0);
        x.row(2, 5, 3, 6, 1);
        x.row(101, 7, 9, 5, 0);
        x.row(102, -2, 9, 5, 0);
        x.row(103, 1, 0, 5, 0);
        int[] want = {-9, 1, 11, -1}, wantOne = {-4, 2, 14, 0};
        for (int measure = 0; measure < 4; measure++) {
            Due.is("change, measure " + measure, x.change(0, measure), want[measure]);
            Due.is("change of heap 1, measure " + measure, x.change(1, measure), wantOne[measure]);
            Due.is("change of heap 728, measure " + measure, x.change(728, measure), 0);
        }
        x.strike(0, 1);
        Due.is("change, one struck", x.change(0, 0), 1);
    }

    private static void rates() {
        SumMoved x = new SumMoved();
        x.row(1, -10, 4, 5, 0);
        x.row(2, 0, 7, 5, 1);
        x.row(3, 8, 0, 5, 2);
        Due.is("upper, under 0", x.rate(1, 0, 0), -5);
        Due.is("lower", x.rate(1, 0, 1), 2);
        Due.is("upper of 0", x.rate(2, 0, 0), 0);
        Due.is("lower of 0", x.rate(2, 0, 1), 1);
        Due.is("upper, no bases", x.rate(3, 0, 0), 0);
        Due.is("lower, no bases", x.rate(3, 0, 1), 0);
        Due.is("upper, no rows", x.rate(0, 1, 0), 0);
        Due.is("lower, no rows", x.rate(0, 1, 1), 0);
        Due.is("upper of all, tops without bases too", x.rate(0, 0, 0), -2);
        Due.is("lower of all", x.rate(0, 0, 1), 11);
    }

    private static void shifts() {
        SumMoved x = new SumMoved();
        x.row(1, 10, 4, 5, 0);
        Due.is("none in month 1", x.shift(0, 0), SumMoved.NO);
        x.row(101, 7, 6, 5, 0);
        Due.is("upper", x.shift(0, 0), -4);
        Due.is("lower", x.shift(0, 1), 3);
        x.right(1, 15, 6);
        Due.is("upper of no change", x.shift(0, 0), 0);
        Due.is("lower of no change", x.shift(0, 1), 1);
        x.right(0, 10, 0);
        Due.is("none in month 0", x.shift(0, 0), SumMoved.NO);
        Due.is("none in month 0, lower", x.shift(0, 1), SumMoved.NO);
        x.right(0, 10, 4);
        for (int far : FAR) {
            Due.is("shift, heap " + far, x.shift(far, 0), SumMoved.NO);
            Due.is("shift, what " + far, x.shift(0, far), SumMoved.NO);
        }
        Due.is("shift, heap 729", x.shift(729, 0), SumMoved.NO);
        Due.is("shift, what 2", x.shift(0, 2), SumMoved.NO);
        greatest();
    }

    /** All 120 rows at their ends: nothing runs over. */
    private static void greatest() {
        SumMoved x = new SumMoved();
        for (int i = 0; i < 60; i++) {
            x.row(0, -99, 9, i, 0);
            x.row(100, 99, i == 0 ? 8 : 9, i, 0);
        }
        Due.is("greatest change", x.change(0, 0), 11880);
        // 5940 / 539 + 11
        Due.is("greatest shift, upper", x.shift(0, 0), 1079);
        Due.is("greatest shift, lower", x.shift(0, 1), 49);
        Due.is("distinct of 60 members", x.sum(0, 1, 3), 60);
    }
}
