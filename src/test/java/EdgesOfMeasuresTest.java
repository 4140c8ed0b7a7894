/** Sentences of 'Terms', 1 and 2, on heaps, measures and fractions, and of promises 6 to 9 that name a boundary. */
public final class EdgesOfMeasuresTest {
    private static final int BAD = Desk.BAD;

    public static void main(String[] args) {
        noTestHasAllRows();
        atMostThreeTests();
        digitsOfBaseNine();
        allTestsMustHold();
        measureSum();
        measureCount();
        measureBases();
        measureDistinct();
        oneMemberInManyRows();
        changeIsMonth1LessMonth0();
        rateNoneWithoutBases();
        rateOfLeastBases();
        lowestTerms();
        lowerAboveZero();
        zeroIsZeroByOne();
        sumRefused();
        changeRefused();
        rateRefused();
        shiftRefused();
        shiftNoneInOneMonth();
        Due.end();
    }

    private static void noTestHasAllRows() {
        Due.of("(0: all ROWS.)");
        SumMoved x = Desk.five();
        Due.is("rows of month 0", x.sum(0, 0, 1), 2);
        Due.is("rows of month 1", x.sum(0, 1, 1), 3);
        Due.is("rows of no month", new SumMoved().sum(0, 0, 1), 0);
        SumMoved y = Desk.full();
        // 120 rows, of which 5 (month 1) and 64 (month 0) are struck.
        Due.is("rows of a full desk, month 0", y.sum(0, 0, 1), 59);
        Due.is("rows of a full desk, month 1", y.sum(0, 1, 1), 59);
    }

    private static void atMostThreeTests() {
        Due.of("A HEAP is a row of at most 3 TESTS, each a MARK and a value, no MARK twice");
        SumMoved x = Desk.five();
        Due.is("three tests", x.sum(Desk.heap(8, 8, 8), 0, 0), -20);
        Due.is("the greatest is 728", Desk.heap(8, 8, 8), 728);
        Due.is("a fourth digit", x.sum(729, 0, 0), BAD);
        Due.is("a fourth digit and the others", x.sum(729 + 728, 0, 0), BAD);
        Due.is("a greatest fourth digit", x.sum(8 * 729, 0, 0), BAD);
        Due.is("below none", x.sum(-1, 0, 0), BAD);
    }

    private static void digitsOfBaseNine() {
        Due.of("for each MARK a digit of base 9, MARK 0's the lowest: 0 no TEST, v + 1: the value v");
        SumMoved x = new SumMoved();
        for (int value = 0; value < 8; value++) {
            x.row(0, 1 + value, 0, 0, Desk.marks(value, 7 - value, (value + 3) % 8));
        }
        for (int value = 0; value < 8; value++) {
            int top = 1 + value;
            Due.is("mark 0 is " + value, x.sum(value + 1, 0, 0), top);
            Due.is("mark 1 is " + (7 - value), x.sum((7 - value + 1) * 9, 0, 0), top);
            Due.is("mark 2 is " + (value + 3) % 8, x.sum(((value + 3) % 8 + 1) * 81, 0, 0), top);
        }
        Due.is("9 tests mark 1, not mark 0", x.sum(9, 0, 0), 1 + 7);
        Due.is("81 tests mark 2", x.sum(81, 0, 0), 1 + 5);
    }

    private static void allTestsMustHold() {
        Due.of("it has the ROWS with all of these");
        SumMoved x = new SumMoved();
        x.row(0, 1, 0, 0, Desk.marks(0, 0, 0));
        x.row(0, 2, 0, 0, Desk.marks(7, 0, 0));
        x.row(0, 4, 0, 0, Desk.marks(0, 7, 0));
        x.row(0, 8, 0, 0, Desk.marks(0, 0, 7));
        int[][] want = {{1, 1, 1, 1}, {1, 1, 0, 9}, {1, 0, 1, 5}, {0, 1, 1, 3}, {1, 1, 8, 8}, {8, 1, 1, 2},
            {1, 8, 1, 4}, {8, 8, 0, 0}, {8, 8, 8, 0}, {1, 0, 0, 13}, {0, 1, 0, 11}, {0, 0, 1, 7}};
        for (int[] w : want) {
            Due.is("sum of " + w[0] + ", " + w[1] + ", " + w[2], x.sum(Desk.heap(w[0], w[1], w[2]), 0, 0), w[3]);
        }
    }

    private static void measureSum() {
        Due.of("0 SUM of TOPS");
        SumMoved x = new SumMoved();
        Due.is("of no rows", x.sum(0, 0, 0), 0);
        for (int i = 0; i < 120; i++) {
            x.row(100, -99, 0, 0, 0);
        }
        Due.is("the least", x.sum(0, 1, 0), -11880);
        for (int i = 0; i < 120; i++) {
            x.right(i, 99, 0);
        }
        Due.is("the greatest", x.sum(0, 1, 0), 11880);
    }

    private static void measureCount() {
        Due.of("1 COUNT of ROWS");
        SumMoved x = new SumMoved();
        for (int i = 0; i < 120; i++) {
            Due.is("of " + i + " rows", x.sum(0, 0, 1), i);
            x.row(0, 0, 0, 0, 0);
        }
        Due.is("the greatest", x.sum(0, 0, 1), 120);
        Due.is("none in the other month", x.sum(0, 1, 1), 0);
    }

    private static void measureBases() {
        Due.of("2 BASES");
        SumMoved x = new SumMoved();
        Due.is("of no rows", x.sum(0, 0, 2), 0);
        for (int i = 0; i < 120; i++) {
            x.row(0, 0, 0, 0, 0);
        }
        Due.is("the least", x.sum(0, 0, 2), 0);
        for (int i = 0; i < 120; i++) {
            x.right(i, 0, 9);
        }
        Due.is("the greatest", x.sum(0, 0, 2), 1080);
    }

    private static void measureDistinct() {
        Due.of("3 DISTINCT: how many MEMBERS");
        SumMoved x = new SumMoved();
        for (int member = 0; member < 64; member++) {
            Due.is("of " + member + " members", x.sum(0, 1, 3), member);
            x.row(100, 0, 0, member, 0);
        }
        Due.is("the greatest", x.sum(0, 1, 3), 64);
        Due.is("none in the other month", x.sum(0, 0, 3), 0);
        Due.is("the change", x.change(0, 3), 64);
    }

    private static void oneMemberInManyRows() {
        Due.of("DISTINCT: how many MEMBERS (not rows)");
        for (int member : new int[] {0, 31, 32, 63}) {
            SumMoved x = new SumMoved();
            for (int i = 0; i < 120; i++) {
                x.row(0, 0, 0, member, i);
            }
            Due.is("120 rows of member " + member, x.sum(0, 0, 3), 1);
        }
        SumMoved y = new SumMoved();
        y.row(0, 0, 0, 0, 0);
        y.row(0, 0, 0, 32, 0);
        Due.is("0 and 32 are two", y.sum(0, 0, 3), 2);
    }

    private static void changeIsMonth1LessMonth0() {
        Due.of("CHANGE: that of MONTH 1 less that of MONTH 0");
        SumMoved x = new SumMoved();
        for (int i = 0; i < 60; i++) {
            x.row(0, 99, 9, i, 0);
            x.row(100, -99, 0, 0, 0);
        }
        int[] want = {-11880, 0, -540, -59};
        for (int measure = 0; measure < 4; measure++) {
            Due.is("change(0, " + measure + ")", x.change(0, measure), want[measure]);
            Due.is("of no rows: " + measure, x.change(2, measure), 0);
        }
    }

    private static void rateNoneWithoutBases() {
        Due.of("RATE: none if BASES are 0; (both 0: there is none)");
        SumMoved x = new SumMoved();
        Desk.fraction(x, "rate", 0, 0, 0, 0);
        Desk.fraction(x, "rate", 0, 0, 728, 1);
        x.row(0, 99, 0, 0, 0);
        Desk.fraction(x, "rate", 0, 0, 0, 0);
        x.row(0, -99, 0, 0, 0);
        Desk.fraction(x, "rate", 0, 0, 0, 0);
        x.row(0, 1, 5, 0, 1);
        Desk.fraction(x, "rate", 0, 0, 1, 0);
        Desk.fraction(x, "rate", 1, 5, 0, 0);
        x.strike(2, 1);
        Desk.fraction(x, "rate", 0, 0, 0, 0);
    }

    private static void rateOfLeastBases() {
        Due.of("RATE: SUM by BASES, a fraction");
        SumMoved x = new SumMoved();
        x.row(0, -99, 1, 0, 0);
        Desk.fraction(x, "rate", -99, 1, 0, 0);
        x.right(0, 99, 9);
        Desk.fraction(x, "rate", 11, 1, 0, 0);
        x.right(0, 1, 9);
        Desk.fraction(x, "rate", 1, 9, 0, 0);
        SumMoved y = new SumMoved();
        for (int i = 0; i < 120; i++) {
            y.row(100, i == 0 ? 98 : 99, 9, 0, 0);
        }
        Desk.fraction(y, "rate", 11879, 1080, 0, 1);
    }

    private static void lowestTerms() {
        Due.of("FRACTIONS are told in lowest terms");
        SumMoved x = new SumMoved();
        x.row(0, 6, 9, 0, 0);
        x.row(100, 98, 7, 0, 0);
        Desk.fraction(x, "rate", 2, 3, 0, 0);
        Desk.fraction(x, "rate", 14, 1, 0, 1);
        Desk.fraction(x, "shift", 40, 3, 0);
        x.right(0, 7, 9);
        Desk.fraction(x, "rate", 7, 9, 0, 0);
        x.right(1, 1, 9);
        Desk.fraction(x, "shift", -2, 3, 0);
    }

    private static void lowerAboveZero() {
        Due.of("the lower number above 0");
        SumMoved x = new SumMoved();
        x.row(0, 99, 9, 0, 0);
        x.row(100, -6, 8, 0, 0);
        Desk.fraction(x, "rate", -3, 4, 0, 1);
        Desk.fraction(x, "shift", -47, 4, 0);
        x.row(100, 0, 8, 0, 1);
        Desk.fraction(x, "part", -141, 16, 0, 0, 0, 0);
        Desk.fraction(x, "part", -41, 16, 0, 0, 0, 1);
        x.factor(0, 1, 0);
        x.factor(1, 1, 0);
        Desk.fraction(x, "share", -1, 2, 0);
    }

    private static void zeroIsZeroByOne() {
        Due.of("(0 is 0 / 1)");
        SumMoved x = new SumMoved();
        x.row(0, 0, 9, 0, 0);
        x.row(100, 0, 7, 0, 0);
        Desk.fraction(x, "rate", 0, 1, 0, 0);
        Desk.fraction(x, "rate", 0, 1, 0, 1);
        Desk.fraction(x, "shift", 0, 1, 0);
        for (int kind = 0; kind < 2; kind++) {
            Desk.fraction(x, "part", 0, 1, 0, 0, 0, kind);
            Desk.fraction(x, "part", 0, 1, 0, 0, 7, kind);
        }
        for (int i = 0; i < 5; i++) {
            Desk.fraction(x, "share", 0, 1, i);
        }
        x.row(0, 9, 1, 0, 1);
        x.row(0, -9, 1, 0, 1);
        Desk.fraction(x, "rate", 0, 1, 2, 0);
    }

    private static void sumRefused() {
        Due.of("A MEASURE of a HEAP in a MONTH. -1000000: no such HEAP, MONTH, MEASURE");
        Call sum = Call.of("sum", 0, 0, 0);
        Desk.ends(Desk::five, sum, 0, BAD, 0, -10, 728, -20);
        Desk.ends(Desk::five, sum, 1, BAD, 0, -10, 1, 43);
        Desk.ends(Desk::five, sum, 2, BAD, 0, -10, 3, 2);
        Desk.ends(SumMoved::new, sum, 0, BAD, 0, 0, 728, 0);
    }

    private static void changeRefused() {
        Due.of("CHANGE of a MEASURE. -1000000");
        Call change = Call.of("change", 0, 0);
        Desk.ends(Desk::five, change, 0, BAD, 0, 53, 728, 28);
        Desk.ends(Desk::five, change, 1, BAD, 0, 53, 3, 1);
        Desk.ends(SumMoved::new, change, 0, BAD, 0, 0, 728, 0);
    }

    private static void rateRefused() {
        Due.of("RATE: -1000000: no such HEAP, MONTH, what");
        Call rate = Call.of("rate", 0, 0, 0);
        Desk.ends(Desk::five, rate, 0, BAD, 0, -5, 728, -5);
        Desk.ends(Desk::five, rate.but(2, 1), 0, BAD, 0, 3, 728, 1);
        Desk.ends(Desk::five, rate, 1, BAD, 0, -5, 1, 43);
        Desk.ends(Desk::five, rate, 2, BAD, 0, -5, 1, 3);
        Desk.ends(SumMoved::new, rate, 0, BAD, 0, 0, 728, 0);
    }

    private static void shiftRefused() {
        Due.of("CHANGE of the RATE. NO: no such HEAP, what");
        Call shift = Call.of("shift", 0, 0);
        Desk.ends(Desk::five, shift, 0, SumMoved.NO, 0, 58, 728, 23);
        Desk.ends(Desk::five, shift, 1, SumMoved.NO, 0, 58, 1, 9);
        Due.is("NO is -4000000000000000000", SumMoved.NO, -4000000000000000000L);
    }

    private static void shiftNoneInOneMonth() {
        Due.of("NO: it has none in one MONTH");
        SumMoved x = new SumMoved();
        Desk.fraction(x, "shift", SumMoved.NO, SumMoved.NO, 0);
        x.row(0, 5, 1, 0, 0);
        Desk.fraction(x, "shift", SumMoved.NO, SumMoved.NO, 0);
        x.row(100, 5, 0, 0, 0);
        Desk.fraction(x, "shift", SumMoved.NO, SumMoved.NO, 0);
        x.right(1, 7, 1);
        Desk.fraction(x, "shift", 2, 1, 0);
        x.right(0, 5, 0);
        Desk.fraction(x, "shift", SumMoved.NO, SumMoved.NO, 0);
        x.right(0, 7, 1);
        Desk.fraction(x, "shift", 0, 1, 0);
        x.strike(0, 1);
        Desk.fraction(x, "shift", SumMoved.NO, SumMoved.NO, 0);
        Desk.fraction(x, "shift", SumMoved.NO, SumMoved.NO, 728);
    }
}
