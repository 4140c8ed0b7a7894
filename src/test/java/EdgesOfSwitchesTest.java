/** Sentences of 'Terms', 3, and of promises 14 to 16 that name a boundary: one test each. */
public final class EdgesOfSwitchesTest {
    private static final int BAD = Desk.BAD;

    public static void main(String[] args) {
        factorsZeroToFour();
        numbersBeforeAndAfter();
        zeroAtFirst();
        outcomeOfASet();
        outcomeAtItsEnds();
        outcomeEnds();
        partOfAFactor();
        partAtItsEnds();
        allPartsAreTheWholeChange();
        aFactorThatStays();
        shareEnds();
        Due.end();
    }

    private static SumMoved set(int... beforeAndAfter) {
        SumMoved x = new SumMoved();
        for (int i = 0; i < 5; i++) {
            Due.is("factor " + i, x.factor(i, beforeAndAfter[2 * i], beforeAndAfter[2 * i + 1]), 1);
        }
        return x;
    }

    private static SumMoved primes() {
        return set(2, 3, 5, 7, 11, 13, 17, 19, 23, 29);
    }

    private static void factorsZeroToFour() {
        Due.of("FACTORS 0 .. 4");
        Desk.ends(SumMoved::new, Call.of("factor", 0, 1, 2), 0, -1, 0, 1, 4, 1);
        // Each is a number of its own: 2 * 5 + 11 * 17 + 23 before.
        SumMoved x = primes();
        Due.is("all before", x.outcome(0), 220);
        Due.is("all after", x.outcome(31), 3 * 7 + 13 * 19 + 29);
    }

    private static void numbersBeforeAndAfter() {
        Due.of("a number before and after (-99 .. 99)");
        for (int i = 0; i < 5; i++) {
            Desk.ends(SumMoved::new, Call.of("factor", i, 0, 0), 1, -1, -99, 1, 99, 1);
            Desk.ends(SumMoved::new, Call.of("factor", i, 0, 0), 2, -1, -99, 1, 99, 1);
        }
        SumMoved x = new SumMoved();
        x.factor(4, -99, 99);
        Due.is("the least before", x.outcome(0), -99);
        Due.is("the greatest after", x.outcome(16), 99);
        x.factor(4, 99, -99);
        Due.is("the greatest before", x.outcome(0), 99);
        Due.is("the least after", x.outcome(16), -99);
    }

    private static void zeroAtFirst() {
        Due.of("(0 at first)");
        SumMoved x = new SumMoved();
        for (int set = 0; set < 32; set++) {
            Due.is("outcome(" + set + ")", x.outcome(set), 0);
        }
        for (int i = 0; i < 5; i++) {
            Desk.fraction(x, "share", 0, 1, i);
        }
        x.factor(0, 99, 99);
        Due.is("factor 1 is 0 yet", x.outcome(31), 0);
        x.factor(2, 99, 99);
        Due.is("factor 3 is 0 yet", x.outcome(31), 0);
    }

    private static void outcomeOfASet() {
        Due.of("OUTCOME of a set of FACTORS (those after, the others before): F0 F1 + F2 F3 + F4");
        SumMoved x = primes();
        int[][] f = {{2, 3}, {5, 7}, {11, 13}, {17, 19}, {23, 29}};
        for (int set = 0; set < 32; set++) {
            int[] is = new int[5];
            for (int i = 0; i < 5; i++) {
                is[i] = f[i][set >> i & 1];
            }
            Due.is("outcome(" + set + ")", x.outcome(set), is[0] * is[1] + is[2] * is[3] + is[4]);
        }
    }

    private static void outcomeAtItsEnds() {
        Due.of("F0 F1 + F2 F3 + F4 of the least and greatest numbers");
        SumMoved x = set(-99, 99, 99, 99, 99, -99, -99, -99, -99, 99);
        Due.is("the least", x.outcome(0), -2 * 9801 - 99);
        Due.is("the greatest", x.outcome(31), 2 * 9801 + 99);
        Due.is("in the middle", x.outcome(1), -99);
        Due.is("no set of 32", x.outcome(32), BAD);
    }

    private static void outcomeEnds() {
        Due.of("OUTCOME of a set (bits). -1000000: NONE");
        Desk.ends(EdgesOfSwitchesTest::primes, Call.of("outcome", 0), 0, BAD, 0, 220, 31, 297);
        Desk.ends(SumMoved::new, Call.of("outcome", 0), 0, BAD, 0, 0, 31, 0);
        Desk.ask(EdgesOfSwitchesTest::primes, Call.of("outcome", 64), BAD);
        Desk.ask(EdgesOfSwitchesTest::primes, Call.of("outcome", 32 + 31), BAD);
        Desk.ask(EdgesOfSwitchesTest::primes, Call.of("outcome", -32), BAD);
    }

    private static void partOfAFactor() {
        Due.of("PART of a FACTOR: the mean, over all 120 orders of the five");
        // Of two that are multiplied: half of the orders have the other before, half after.
        SumMoved x = primes();
        Desk.fraction(x, "share", 6, 1, 0);
        Desk.fraction(x, "share", 5, 1, 1);
        Desk.fraction(x, "share", 36, 1, 2);
        Desk.fraction(x, "share", 24, 1, 3);
        Desk.fraction(x, "share", 6, 1, 4);
        x.factor(1, 5, 8);
        Desk.fraction(x, "share", 13, 2, 0);
        Desk.fraction(x, "share", 15, 2, 1);
        x.factor(3, 17, -20);
        Desk.fraction(x, "share", -3, 1, 2);
        Desk.fraction(x, "share", -444, 1, 3);
    }

    private static void partAtItsEnds() {
        Due.of("PART of a FACTOR of the least and greatest numbers");
        SumMoved x = set(-99, 99, 99, 99, 99, -99, 99, 99, 99, -99);
        Desk.fraction(x, "share", 19602, 1, 0);
        Desk.fraction(x, "share", 0, 1, 1);
        Desk.fraction(x, "share", -19602, 1, 2);
        Desk.fraction(x, "share", 0, 1, 3);
        Desk.fraction(x, "share", -198, 1, 4);
        x.factor(1, 99, 98);
        Desk.fraction(x, "share", 19503, 1, 0);
        x.factor(0, -99, 98);
        Desk.fraction(x, "share", 38809, 2, 0);
        Desk.fraction(x, "share", 1, 2, 1);
        x.factor(0, -98, 99);
        Desk.fraction(x, "share", -1, 2, 1);
    }

    private static void allPartsAreTheWholeChange() {
        Due.of("(All PARTS are the whole change.)");
        int[][] ends = {{0, 0, 0, 0, 0, 0, 0, 0, 0, 0}, {-99, 99, 99, -99, -99, 98, 97, -99, -99, 99},
            {1, 2, 3, 4, 5, 6, 7, 8, 9, 10}, {0, 99, 0, 99, 0, -99, 0, 99, 0, 1}, {-1, 0, 0, -1, 1, 0, 0, 1, 0, 0}};
        for (int[] numbers : ends) {
            SumMoved x = set(numbers);
            Ratio all = Ratio.of(0, 1);
            for (int i = 0; i < 5; i++) {
                all = all.plus(Ratio.of(x.share(i, 0), x.share(i, 1)));
            }
            Due.is("all parts, upper", all.tell(0), x.outcome(31) - x.outcome(0));
            Due.is("all parts, lower", all.tell(1), 1);
        }
    }

    private static void aFactorThatStays() {
        Due.of("how the OUTCOME changes when it is switched to after");
        for (int i = 0; i < 5; i++) {
            SumMoved x = primes();
            x.factor(i, 99, 99);
            Desk.fraction(x, "share", 0, 1, i);
            x.factor(i, -99, -99);
            Desk.fraction(x, "share", 0, 1, i);
        }
    }

    private static void shareEnds() {
        Due.of("PART of a FACTOR: what 0 the upper, 1 the lower number. -1000000: NONE");
        Desk.ends(EdgesOfSwitchesTest::primes, Call.of("share", 0, 0), 0, BAD, 0, 6, 4, 6);
        Desk.ends(EdgesOfSwitchesTest::primes, Call.of("share", 0, 1), 0, BAD, 0, 1, 4, 1);
        Desk.ends(EdgesOfSwitchesTest::primes, Call.of("share", 2, 0), 1, BAD, 0, 36, 1, 1);
        SumMoved x = new SumMoved();
        x.factor(4, 0, -1);
        Due.is("a part of -1 is no refusal", x.share(4, 0), -1);
    }
}
