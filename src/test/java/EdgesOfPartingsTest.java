/** Sentences of 'Terms', 2 (partings, moves) and 4 (rounding), and of promises 10 to 13 that name a boundary. */
public final class EdgesOfPartingsTest {
    private static final int BAD = Desk.BAD;
    private static final int[] PLACES = {1, 9, 81};

    public static void main(String[] args) {
        partOnAMarkWithoutTest();
        partWithRatesInBothMonths();
        bothAboveZero();
        justOneIsZero();
        bothAreZero();
        allPartsAreTheChange();
        topsWithoutBasesCount();
        partEnds();
        came();
        left();
        stayed();
        moved();
        movesOfAllRows();
        movesEnds();
        moveEnds();
        memberWithoutRows();
        roundedDown();
        wholeRoundedDown();
        unitsGiven();
        likeRemainders();
        roundedOnAMarkWithoutTest();
        roundedEnds();
        Due.end();
    }

    /** RATE part and MIX part, each upper by lower. */
    private static void part(SumMoved x, int heap, int mark, int value, long... want) {
        Desk.fraction(x, "part", want[0], want[1], heap, mark, value, 0);
        Desk.fraction(x, "part", want[2], want[3], heap, mark, value, 1);
    }

    private static void noPart(SumMoved x, int heap, int mark, int value) {
        part(x, heap, mark, value, SumMoved.NO, SumMoved.NO, SumMoved.NO, SumMoved.NO);
    }

    private static SumMoved oneInEachMonth(int marks) {
        SumMoved x = new SumMoved();
        x.row(0, 1, 1, 0, marks);
        x.row(100, 3, 1, 0, marks);
        return x;
    }

    private static void partOnAMarkWithoutTest() {
        Due.of("PARTING of a HEAP's RATE by a MARK (on which it has no TEST)");
        for (int value = 0; value < 8; value++) {
            SumMoved x = oneInEachMonth(Desk.marks(value, value, value));
            for (int mark = 0; mark < 3; mark++) {
                int tested = (value + 1) * PLACES[mark], other = (mark + 1) % 3;
                noPart(x, tested, mark, value);
                part(x, tested, other, value, 2, 1, 0, 1);
                noPart(x, tested + (value + 1) * PLACES[other], other, value);
                part(x, tested + (value + 1) * PLACES[other], (mark + 2) % 3, value, 2, 1, 0, 1);
                noPart(x, (value + 1) * 91, mark, value);
            }
        }
    }

    private static void partWithRatesInBothMonths() {
        Due.of("PARTING .. if it has a RATE in both MONTHS; NO: there is no PARTING");
        SumMoved x = new SumMoved();
        noPart(x, 0, 0, 0);
        x.row(0, 1, 1, 0, 0);
        noPart(x, 0, 0, 0);
        x.row(100, 3, 0, 0, 0);
        noPart(x, 0, 0, 0);
        x.right(1, 3, 1);
        part(x, 0, 0, 0, 2, 1, 0, 1);
        x.right(0, 1, 0);
        noPart(x, 0, 0, 0);
        noPart(x, 0, 0, 7);
        x.right(0, 1, 1);
        x.strike(0, 1);
        noPart(x, 0, 0, 0);
        x.strike(0, 0);
        part(x, 0, 0, 0, 2, 1, 0, 1);
        // All rows have one, but the heap with a test has none.
        noPart(x, 2, 1, 0);
    }

    private static void bothAboveZero() {
        Due.of("if b0 and b1 are above 0: its RATE part is .., its MIX part ..");
        SumMoved x = oneInEachMonth(0);
        x.row(0, 9, 2, 0, 1);
        x.row(100, 8, 4, 0, 1);
        // Value 0: 1 to 3, weights 1/3 to 1/5. Value 1: 9/2 to 2, weights 2/3 to 4/5.
        part(x, 0, 0, 0, 8, 15, -4, 15);
        part(x, 0, 0, 1, -11, 6, 13, 30);
        Desk.fraction(x, "shift", -17, 15, 0);
    }

    private static void justOneIsZero() {
        Due.of("If just one of both is 0: its MIX part is a1 / B1 - a0 / B0, its RATE part 0");
        SumMoved x = oneInEachMonth(0);
        x.row(0, 4, 2, 0, 1);
        x.row(100, 5, 3, 0, 2);
        // B0 is 3, B1 is 4.
        part(x, 0, 0, 1, 0, 1, -4, 3);
        part(x, 0, 0, 2, 0, 1, 5, 4);
        x.row(100, 7, 0, 0, 1);
        part(x, 0, 0, 1, 0, 1, 5, 12);
        x.row(0, -6, 0, 0, 2);
        part(x, 0, 0, 2, 0, 1, 13, 4);
        x.right(4, 7, 1);
        // One base more in month 1, so value 1 has a rate in both: 2 to 7, weights 2/3 to 1/5.
        part(x, 0, 0, 1, 13, 6, -21, 10);
    }

    private static void bothAreZero() {
        Due.of("Both 0: likewise");
        SumMoved x = oneInEachMonth(0);
        for (int value = 1; value < 8; value++) {
            part(x, 0, 0, value, 0, 1, 0, 1);
        }
        x.row(0, 4, 0, 0, 1);
        part(x, 0, 0, 1, 0, 1, -4, 1);
        x.row(100, 4, 0, 0, 1);
        part(x, 0, 0, 1, 0, 1, 0, 1);
        x.row(100, 99, 0, 0, 7);
        part(x, 0, 0, 7, 0, 1, 99, 1);
    }

    private static void together(String when, SumMoved x, int heap, int mark) {
        Ratio all = Ratio.of(0, 1);
        for (int i = 0; i < 16; i++) {
            long upper = x.part(heap, mark, i / 2, i % 2, 0), lower = x.part(heap, mark, i / 2, i % 2, 1);
            all = all.plus(Ratio.of(upper, lower));
        }
        Due.is(when + ", upper", all.tell(0), x.shift(heap, 0));
        Due.is(when + ", lower", all.tell(1), x.shift(heap, 1));
    }

    private static void allPartsAreTheChange() {
        Due.of("(All parts together are the CHANGE of the RATE.)");
        SumMoved x = new SumMoved();
        for (int i = 0; i < 120; i++) {
            // Tops and bases at their ends, with few divisors in common.
            int base = i / 2 % 7 == 0 ? 8 : 9;
            x.row(i % 2 * 100, i % 2 == 0 ? -99 : 99 - i % 3, base, 0, Desk.marks(i / 2 % 8, i / 2 % 3, 7));
        }
        together("eight values", x, 0, 0);
        together("three values", x, 0, 1);
        together("one value", x, 0, 2);
        together("of a heap with a test", x, Desk.heap(0, 0, 8), 0);
        together("of one value", oneInEachMonth(511), 0, 0);
        SumMoved y = oneInEachMonth(0);
        y.row(0, -99, 9, 0, 7);
        together("one that left", y, 0, 0);
        y.row(100, 99, 9, 0, 6);
        together("one that came", y, 0, 0);
    }

    private static void topsWithoutBasesCount() {
        Due.of("(TOPS of a value without BASES in a MONTH count in that way, too.)");
        SumMoved x = oneInEachMonth(0);
        x.row(0, 50, 0, 0, 1);
        x.row(100, -50, 0, 0, 2);
        part(x, 0, 0, 1, 0, 1, -50, 1);
        part(x, 0, 0, 2, 0, 1, -50, 1);
        Desk.fraction(x, "shift", -98, 1, 0);
        together("tops without bases", x, 0, 0);
    }

    private static void partEnds() {
        Due.of("part: NO: a number is not as said");
        Call part = Call.of("part", 0, 0, 0, 0, 0);
        long no = SumMoved.NO;
        // B0 is 6, B1 is 9; value 0 of MARK 0: 5 to 6, weights 1/3 to 5/9; value 7: -5 to 13/4, weights 2/3 to 4/9.
        Desk.ends(Desk::five, part, 2, no, 0, 4, 7, 55);
        Desk.ends(Desk::five, part.but(4, 1), 2, no, 0, 9, 7, 12);
        Desk.ends(Desk::five, part, 3, no, 0, 4, 1, 11);
        Desk.ends(Desk::five, part, 4, no, 0, 4, 1, 9);
        // By MARK 2 as by MARK 0: value 0 and 7 part the rows alike.
        Desk.ends(Desk::five, part, 1, no, 0, 4, 2, 4);
        for (int heap : new int[] {-1, 729, 810, Integer.MIN_VALUE, Integer.MAX_VALUE}) {
            for (int mark = 0; mark < 3; mark++) {
                Desk.ask(Desk::five, part.but(0, heap).but(1, mark), no);
            }
        }
        // The greatest heap without a test on a mark, from -5 to 8/3; by MARK 1 with weights 1 to 3/4.
        int[][] greatest = {{720, 23, 3}, {656, 161, 24}, {80, 23, 3}};
        for (int mark = 0; mark < 3; mark++) {
            int[] g = greatest[mark];
            Desk.ask(Desk::five, Call.of("part", g[0], mark, 7, 0, 0), g[1]);
            Desk.ask(Desk::five, Call.of("part", g[0], mark, 7, 0, 1), g[2]);
        }
    }

    private static void came() {
        Due.of("CAME: MEMBERS with ROWS in MONTH 1 alone");
        SumMoved x = new SumMoved();
        for (int member = 0; member < 64; member++) {
            Due.is("before", x.moves(0, 0), member);
            x.row(100, 0, 0, member, 0);
            Due.is("member " + member, x.move(0, member), 0);
        }
        for (int mark = 0; mark < 3; mark++) {
            Due.is("all of them, by mark " + mark, x.moves(mark, 0), 64);
            Due.is("none left", x.moves(mark, 1), 0);
            Due.is("none stayed", x.moves(mark, 2), 0);
            Due.is("none moved", x.moves(mark, 3), 0);
        }
        x.row(0, 0, 0, 63, 0);
        Due.is("one has a row in month 0, too", x.moves(0, 0), 63);
        Due.is("it stayed", x.move(0, 63), 2);
        x.strike(64, 1);
        Due.is("a struck row is none", x.moves(0, 0), 64);
    }

    private static void left() {
        Due.of("LEFT: in 0 alone");
        SumMoved x = new SumMoved();
        for (int member = 0; member < 64; member++) {
            x.row(30, 0, 0, member, 511);
            Due.is("member " + member, x.move(2, member), 1);
        }
        for (int mark = 0; mark < 3; mark++) {
            Due.is("all of them, by mark " + mark, x.moves(mark, 1), 64);
            Due.is("none came", x.moves(mark, 0), 0);
        }
        x.row(100, 0, 0, 0, 0);
        Due.is("one has a row in month 1, too", x.moves(0, 1), 63);
        Due.is("it moved", x.move(0, 0), 3);
    }

    private static void stayed() {
        Due.of("STAYED: with the same VALUES in both");
        SumMoved x = new SumMoved();
        // Two rows and one, other days, tops and bases: the values are the same.
        x.row(0, 1, 1, 0, 0);
        x.row(30, 2, 0, 0, 0);
        x.row(115, 9, 9, 0, 0);
        Due.is("one value, more rows", x.move(0, 0), 2);
        for (int value = 0; value < 8; value++) {
            x.row(0, 0, 0, 63, value);
            x.row(100, 0, 0, 63, 7 - value);
        }
        Due.is("all eight values, in another order", x.move(0, 63), 2);
        Due.is("both", x.moves(0, 2), 2);
        Due.is("none moved", x.moves(0, 3), 0);
    }

    private static void moved() {
        Due.of("MOVED: with others");
        SumMoved x = new SumMoved();
        x.row(0, 0, 0, 0, Desk.marks(0, 0, 0));
        x.row(100, 0, 0, 0, Desk.marks(7, 0, 0));
        Due.is("another value", x.move(0, 0), 3);
        Due.is("by another mark it stayed", x.move(1, 0), 2);
        x.row(100, 0, 0, 0, Desk.marks(0, 0, 0));
        Due.is("one value more", x.move(0, 0), 3);
        x.row(0, 0, 0, 0, Desk.marks(7, 0, 0));
        Due.is("the same values then", x.move(0, 0), 2);
        x.row(0, 0, 0, 0, Desk.marks(6, 0, 0));
        Due.is("one value less", x.move(0, 0), 3);
        SumMoved y = new SumMoved();
        for (int member = 0; member < 60; member++) {
            y.row(0, 0, 0, member, 0);
            y.row(100, 0, 0, member, 64);
        }
        Due.is("60 of them, by mark 2", y.moves(2, 3), 60);
        Due.is("none of them, by mark 1", y.moves(1, 3), 0);
        Due.is("they stayed", y.moves(1, 2), 60);
    }

    private static void movesOfAllRows() {
        Due.of("MOVES of MEMBERS by a MARK, of all ROWS");
        SumMoved x = Desk.five();
        int[][] want = {{1, 0, 2, 0}, {1, 0, 2, 0}, {1, 0, 2, 0}};
        for (int i = 0; i < 12; i++) {
            Due.is("moves(" + i / 4 + ", " + i % 4 + ")", x.moves(i / 4, i % 4), want[i / 4][i % 4]);
        }
        SumMoved y = new SumMoved();
        for (int i = 0; i < 120; i++) {
            y.row(i < 64 ? 0 : 100, 0, 0, i % 64, i < 64 ? 0 : 1);
        }
        Due.is("row 119 counts", y.move(0, 55), 3);
        Due.is("rows 0 .. 55 have one beyond 63", y.moves(0, 3), 56);
        Due.is("rows 56 .. 63 have none", y.moves(0, 1), 8);
    }

    private static void movesEnds() {
        Due.of("moves: how many. NONE");
        Call moves = Call.of("moves", 0, 0);
        Desk.ends(Desk::five, moves, 0, -1, 0, 1, 2, 1);
        Desk.ends(Desk::five, moves, 1, -1, 0, 1, 3, 0);
        Desk.ends(SumMoved::new, moves, 0, -1, 0, 0, 2, 0);
        Desk.ends(SumMoved::new, moves, 1, -1, 0, 0, 3, 0);
    }

    private static void moveEnds() {
        Due.of("move: MOVES of one MEMBER: 0 .. 3 as above. NONE");
        Call move = Call.of("move", 0, 1);
        Desk.ends(Desk::five, move, 0, -1, 0, 0, 2, 0);
        Desk.ends(Desk::five, move, 1, -1, 0, 2, 63, 2);
    }

    private static void memberWithoutRows() {
        Due.of("4: it has no ROWS");
        Desk.ends(SumMoved::new, Call.of("move", 0, 0), 1, -1, 0, 4, 63, 4);
        Desk.ask(Desk::five, Call.of("move", 0, 2), 4);
        Desk.ask(Desk::five, Call.of("move", 0, 62), 4);
        SumMoved x = Desk.five();
        x.strike(3, 1);
        Due.is("its one row is struck", x.move(0, 1), 4);
        x.strike(3, 0);
        Due.is("its one row is put back", x.move(0, 1), 0);
    }

    private static void rounded(SumMoved x, int heap, int mark, int unit, int... want) {
        for (int value = 0; value < want.length; value++) {
            Call call = Call.of("rounded", heap, mark, value, unit);
            Due.is(call.toString(), call.on(x), want[value]);
        }
    }

    /** A row for each value of MARK 1, with these tops in month 1. */
    private static SumMoved tops(int... tops) {
        SumMoved x = new SumMoved();
        for (int value = 0; value < tops.length; value++) {
            x.row(100, tops[value], 0, 0, Desk.marks(0, value, 0));
        }
        return x;
    }

    private static void roundedDown() {
        Due.of("each down to a multiple of u (toward minus without end)");
        rounded(tops(9), 0, 1, 10, 0, 0, 0, 0, 0, 0, 0, 0, 0);
        rounded(tops(10), 0, 1, 10, 1, 0, 0, 0, 0, 0, 0, 0, 1);
        rounded(tops(11), 0, 1, 10, 1, 0, 0, 0, 0, 0, 0, 0, 1);
        rounded(tops(-1), 0, 1, 10, -1, 0, 0, 0, 0, 0, 0, 0, -1);
        rounded(tops(-10), 0, 1, 10, -1, 0, 0, 0, 0, 0, 0, 0, -1);
        rounded(tops(-11), 0, 1, 10, -2, 0, 0, 0, 0, 0, 0, 0, -2);
        // Two that go down by 1 and 9 tenths meet in whole units.
        rounded(tops(-1, -9), 0, 1, 10, 0, -1, 0, 0, 0, 0, 0, 0, -1);
        rounded(tops(1, -1), 0, 1, 1000, 0, 0, 0, 0, 0, 0, 0, 0, 0);
    }

    private static void wholeRoundedDown() {
        Due.of("the whole CHANGE likewise");
        SumMoved x = new SumMoved();
        for (int i = 0; i < 120; i++) {
            x.row(0, 99, 0, 0, 0);
        }
        rounded(x, 0, 0, 1, -11880, 0, 0, 0, 0, 0, 0, 0, -11880);
        rounded(x, 0, 0, 1000, -12, 0, 0, 0, 0, 0, 0, 0, -12);
        for (int i = 0; i < 120; i++) {
            x.right(i, -99, 0);
        }
        rounded(x, 0, 0, 1000, 11, 0, 0, 0, 0, 0, 0, 0, 11);
        rounded(x, 0, 0, 990, 12, 0, 0, 0, 0, 0, 0, 0, 12);
        rounded(x, 0, 0, 991, 11, 0, 0, 0, 0, 0, 0, 0, 11);
    }

    private static void unitsGiven() {
        Due.of("as many units as the whole has more than these together are given, one each, "
                + "to the parts with the greatest remainders");
        rounded(tops(8, 8, 8, 8, 8, 8, 8, 8), 0, 1, 8, 1, 1, 1, 1, 1, 1, 1, 1, 8);
        rounded(tops(7, 7, 7, 7, 7, 7, 7, 7), 0, 1, 8, 1, 1, 1, 1, 1, 1, 1, 0, 7);
        rounded(tops(1, 1, 1, 1, 1, 1, 1, 1), 0, 1, 8, 1, 0, 0, 0, 0, 0, 0, 0, 1);
        rounded(tops(1, 1, 1, 1, 1, 1, 1, 0), 0, 1, 8, 0, 0, 0, 0, 0, 0, 0, 0, 0);
        rounded(tops(1, 2, 3, 4, 5, 6, 7, 4), 0, 1, 8, 0, 0, 0, 1, 1, 1, 1, 0, 4);
        rounded(tops(0, 0, 0, 0, 0, 0, 1, 7), 0, 1, 8, 0, 0, 0, 0, 0, 0, 0, 1, 1);
        rounded(tops(-7, -7, -7, -7, -7, -7, -7, -7), 0, 1, 8, 0, -1, -1, -1, -1, -1, -1, -1, -7);
        rounded(tops(99, 99, 99, 99, 99, 99, 99, 99), 0, 1, 100, 1, 1, 1, 1, 1, 1, 1, 0, 7);
    }

    private static void likeRemainders() {
        Due.of("of like ones the lesser value first");
        rounded(tops(5, 5), 0, 1, 10, 1, 0, 0, 0, 0, 0, 0, 0, 1);
        rounded(tops(0, 0, 0, 0, 0, 0, 5, 5), 0, 1, 10, 0, 0, 0, 0, 0, 0, 1, 0, 1);
        rounded(tops(4, 5, 6, 5), 0, 1, 10, 0, 1, 1, 0, 0, 0, 0, 0, 2);
        // 15 and -5 leave 5, as 5 does.
        rounded(tops(15, -5, 5, 5), 0, 1, 10, 2, 0, 0, 0, 0, 0, 0, 0, 2);
        rounded(tops(25, 15), 0, 1, 10, 3, 1, 0, 0, 0, 0, 0, 0, 4);
    }

    private static void roundedOnAMarkWithoutTest() {
        Due.of("rounded: -1000000: the MARK has a TEST");
        SumMoved x = oneInEachMonth(511);
        for (int mark = 0; mark < 3; mark++) {
            for (int digit = 1; digit < 9; digit++) {
                Due.is("a part", x.rounded(digit * PLACES[mark], mark, 7, 1), BAD);
                Due.is("the whole", x.rounded(digit * PLACES[mark], mark, 8, 1), BAD);
            }
            int other = 8 * PLACES[(mark + 1) % 3], third = 8 * PLACES[(mark + 2) % 3];
            Due.is("a test on another mark", x.rounded(other, mark, 7, 1), 2);
            Due.is("tests on both others", x.rounded(other + third, mark, 7, 1), 2);
            Due.is("tests on both others, the whole", x.rounded(other + third, mark, 8, 1), 2);
            Due.is("tests on all", x.rounded(728, mark, 7, 1), BAD);
        }
    }

    private static void roundedEnds() {
        Due.of("rounded: a unit (1 .. 1000); value 8: the whole. -1000000: a number is not as said");
        Call rounded = Call.of("rounded", 0, 0, 0, 1);
        // Value 0 of MARK 0: 20; value 7: 33; the whole: 53.
        Desk.ends(Desk::five, rounded, 3, BAD, 1, 20, 1000, 0);
        Desk.ends(Desk::five, rounded.but(2, 8), 3, BAD, 1, 53, 1000, 0);
        Desk.ends(Desk::five, rounded, 2, BAD, 0, 20, 8, 53);
        Desk.ask(Desk::five, rounded.but(2, 7), 33);
        Desk.ends(Desk::five, rounded, 1, BAD, 0, 20, 2, 20);
        for (int heap : new int[] {-1, 729, 738, 810, Integer.MIN_VALUE, Integer.MAX_VALUE}) {
            for (int mark = 0; mark < 3; mark++) {
                Desk.ask(Desk::five, rounded.but(0, heap).but(1, mark), BAD);
            }
        }
        int[] greatest = {720, 656, 80};
        for (int mark = 0; mark < 3; mark++) {
            Desk.ask(Desk::five, Call.of("rounded", greatest[mark], mark, 7, 1), 28);
        }
        Desk.ask(Desk::five, rounded.but(3, 0).but(2, 8), BAD);
        Desk.ask(SumMoved::new, rounded.but(3, 0), BAD);
        SumMoved x = tops(-1);
        Due.is("a part of -1 is no refusal", x.rounded(0, 1, 0, 1), -1);
    }
}
