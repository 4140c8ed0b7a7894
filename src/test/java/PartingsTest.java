/** Promises 10 to 13: part, moves, move, rounded. */
public final class PartingsTest {
    private static final int[] FAR = {Integer.MIN_VALUE, -1, Integer.MAX_VALUE};

    public static void main(String[] args) {
        parts();
        allPartsAreTheShift();
        partRefused();
        moves();
        movesRefused();
        rounded();
        roundedTies();
        roundedRefused();
        Due.end();
    }

    private static void part(SumMoved x, int heap, int mark, int value, long... want) {
        for (int i = 0; i < 4; i++) {
            Due.is("part(" + heap + ", " + mark + ", " + value + ", " + i / 2 + ", " + i % 2 + ")",
                    x.part(heap, mark, value, i / 2, i % 2), want[i]);
        }
    }

    private static void parts() {
        SumMoved x = new SumMoved();
        x.row(1, 6, 2, 0, 0);
        x.row(1, 4, 4, 0, 1);
        x.row(1, 5, 0, 0, 2);
        x.row(1, 3, 1, 0, 3);
        x.row(1, 9, 1, 0, 7);
        x.row(101, 10, 4, 0, 0);
        x.row(101, 6, 2, 0, 4);
        x.row(101, -8, 0, 0, 2);
        x.row(101, 2, 2, 0, 7);
        // B0 = 8, B1 = 8. Value 0: 3 to 5/2, weights 1/4 to 1/2.
        part(x, 0, 0, 0, -3, 16, 11, 16);
        // Only in month 0, only in month 1, tops without bases, nothing at all.
        part(x, 0, 0, 1, 0, 1, -1, 2);
        part(x, 0, 0, 4, 0, 1, 3, 4);
        part(x, 0, 0, 2, 0, 1, -13, 8);
        part(x, 0, 0, 5, 0, 1, 0, 1);
        part(x, 0, 0, 3, 0, 1, -3, 8);
        // The missing value: 9 to 1, weights 1/8 to 1/4.
        part(x, 0, 0, 7, -3, 2, 5, 8);
        // All rows have value 0 of MARK 1: its parting has one part, the shift.
        part(x, 0, 1, 0, -17, 8, 0, 1);
        Due.is("shift, upper", x.shift(0, 0), -17);
        Due.is("shift, lower", x.shift(0, 1), 8);
        // Of heap 1 (value 0 of MARK 0), by MARK 2.
        part(x, 1, 2, 0, -1, 2, 0, 1);
        part(x, 1, 2, 1, 0, 1, 0, 1);
        x.strike(5, 1);
        part(x, 0, 0, 0, 0, 1, -3, 4);
    }

    private static void allPartsAreTheShift() {
        SumMoved x = new SumMoved();
        for (int i = 0; i < 100; i++) {
            x.row(i % 2 * 100 + i % 31, i * 37 % 199 - 99, i * 7 % 10, i % 64, i * 131 % 512);
        }
        int[][] by = {{0, 0}, {0, 1}, {0, 2}, {3, 1}, {9, 0}, {162, 1}};
        for (int[] b : by) {
            if (x.shift(b[0], 0) == SumMoved.NO) {
                continue;
            }
            Ratio all = Ratio.of(0, 1);
            for (int value = 0; value < 8; value++) {
                for (int kind = 0; kind < 2; kind++) {
                    long upper = x.part(b[0], b[1], value, kind, 0), lower = x.part(b[0], b[1], value, kind, 1);
                    Due.holds("a part's lower number is above 0", lower > 0);
                    all = all.plus(Ratio.of(upper, lower));
                }
            }
            Due.is("all parts of heap " + b[0] + ", upper", all.tell(0), x.shift(b[0], 0));
            Due.is("all parts of heap " + b[0] + ", lower", all.tell(1), x.shift(b[0], 1));
        }
    }

    private static void partRefused() {
        SumMoved x = new SumMoved();
        Due.is("no rows", x.part(0, 0, 0, 0, 0), SumMoved.NO);
        x.row(1, 6, 2, 0, 0);
        Due.is("month 0 alone", x.part(0, 0, 0, 0, 1), SumMoved.NO);
        x.row(101, 6, 0, 0, 0);
        Due.is("no bases in month 1", x.part(0, 0, 0, 1, 1), SumMoved.NO);
        x.right(1, 6, 2);
        x.right(0, 6, 0);
        Due.is("no bases in month 0", x.part(0, 0, 0, 1, 1), SumMoved.NO);
        x.right(0, 6, 2);
        Due.is("a parting", x.part(0, 0, 0, 1, 1), 1);
        for (int far : FAR) {
            Due.is("part, heap " + far, x.part(far, 0, 0, 0, 0), SumMoved.NO);
            Due.is("part, mark " + far, x.part(0, far, 0, 0, 0), SumMoved.NO);
            Due.is("part, value " + far, x.part(0, 0, far, 0, 0), SumMoved.NO);
            Due.is("part, kind " + far, x.part(0, 0, 0, far, 0), SumMoved.NO);
            Due.is("part, what " + far, x.part(0, 0, 0, 0, far), SumMoved.NO);
        }
        Due.is("part, heap 729", x.part(729, 0, 0, 0, 0), SumMoved.NO);
        Due.is("part, mark 3", x.part(0, 3, 0, 0, 0), SumMoved.NO);
        Due.is("part, value 8", x.part(0, 0, 8, 0, 0), SumMoved.NO);
        Due.is("part, kind 2", x.part(0, 0, 0, 2, 0), SumMoved.NO);
        Due.is("part, what 2", x.part(0, 0, 0, 0, 2), SumMoved.NO);
        Due.is("part, a test on mark 0", x.part(1, 0, 0, 0, 0), SumMoved.NO);
        Due.is("part, a test on mark 1", x.part(9, 1, 0, 0, 0), SumMoved.NO);
        Due.is("part, a test on mark 2", x.part(81, 2, 0, 0, 0), SumMoved.NO);
        Due.is("part, a test on the others", x.part(82, 1, 0, 1, 1), 1);
    }

    private static SumMoved fiveMembers() {
        SumMoved x = new SumMoved();
        x.row(101, 0, 0, 0, 7); // 0 came
        x.row(1, 0, 0, 63, 0); // 63 left
        x.row(1, 0, 0, 5, 1); // 5 stayed by MARK 0: 1, 2 and 2, 1, 2
        x.row(2, 0, 0, 5, 2 + 8);
        x.row(101, 0, 0, 5, 2);
        x.row(102, 0, 0, 5, 1);
        x.row(103, 0, 0, 5, 2);
        x.row(1, 0, 0, 6, 1); // 6 moved by MARK 0: 1 and 1, 7
        x.row(101, 0, 0, 6, 1);
        x.row(102, 0, 0, 6, 7);
        x.row(1, 0, 0, 7, 3 * 64); // 7 moved by MARK 2
        x.row(101, 0, 0, 7, 4 * 64);
        return x;
    }

    private static void moves() {
        SumMoved x = fiveMembers();
        int[][] many = {{1, 1, 2, 1}, {1, 1, 2, 1}, {1, 1, 2, 1}};
        int[][] ways = {{0, 0, 0}, {63, 1, 1}, {5, 2, 3}, {6, 3, 2}, {7, 2, 2}, {62, 4, 4}};
        for (int mark = 0; mark < 3; mark++) {
            for (int how = 0; how < 4; how++) {
                Due.is("moves(" + mark + ", " + how + ")", x.moves(mark, how), many[mark][how]);
            }
        }
        for (int[] w : ways) {
            Due.is("move(0, " + w[0] + ")", x.move(0, w[0]), w[1]);
            Due.is("move(1, " + w[0] + ")", x.move(1, w[0]), w[2]);
        }
        Due.is("move(2, 7)", x.move(2, 7), 3);
        Due.is("move(2, 6)", x.move(2, 6), 2);
        x.strike(9, 1);
        Due.is("6 stays without the struck row", x.move(0, 6), 2);
        x.strike(8, 1);
        Due.is("6 leaves without both", x.move(0, 6), 1);
        x.strike(7, 1);
        Due.is("6 has no rows", x.move(0, 6), 4);
        Due.is("moves(0, 3) then", x.moves(0, 3), 0);
        x.strike(8, 0);
        Due.is("6 came", x.move(0, 6), 0);
        Due.is("moves(0, 0) then", x.moves(0, 0), 2);
    }

    private static void movesRefused() {
        SumMoved x = fiveMembers();
        for (int far : FAR) {
            Due.is("moves, mark " + far, x.moves(far, 0), -1);
            Due.is("moves, how " + far, x.moves(0, far), -1);
            Due.is("move, mark " + far, x.move(far, 0), -1);
            Due.is("move, member " + far, x.move(0, far), -1);
        }
        Due.is("moves, mark 3", x.moves(3, 0), -1);
        Due.is("moves, how 4", x.moves(0, 4), -1);
        Due.is("move, mark 3", x.move(3, 0), -1);
        Due.is("move, member 64", x.move(0, 64), -1);
    }

    private static void round(SumMoved x, int heap, int mark, int unit, int... want) {
        for (int value = 0; value <= 8; value++) {
            Due.is("rounded(" + heap + ", " + mark + ", " + value + ", " + unit + ")",
                    x.rounded(heap, mark, value, unit), want[value]);
        }
    }

    private static void rounded() {
        SumMoved x = new SumMoved();
        x.row(101, 14, 0, 0, 0);
        x.row(101, 27, 0, 0, 1);
        x.row(1, 3, 0, 0, 2);
        x.row(1, 40, 0, 0, 3);
        x.row(101, 19, 0, 0, 7);
        // 14, 27, -3, -40, 0, 0, 0, 19: 17 in all.
        round(x, 0, 0, 1, 14, 27, -3, -40, 0, 0, 0, 19, 17);
        // Down: 1, 2, -1, -4, 0, 0, 0, 1 are -1; the whole 1: two to give, remainders 4, 7, 7, 0, 9.
        round(x, 0, 0, 10, 1, 3, -1, -4, 0, 0, 0, 2, 1);
        // Two to give, and the remainders of -3 and -40 are the greatest.
        round(x, 0, 0, 1000, 0, 0, 0, 0, 0, 0, 0, 0, 0);
        round(x, 0, 1, 10, 1, 0, 0, 0, 0, 0, 0, 0, 1);
        round(x, 4, 1, 7, -6, 0, 0, 0, 0, 0, 0, 0, -6);
        x.strike(4, 1);
        // One to give, and the remainder 7 stands twice.
        round(x, 0, 0, 10, 1, 3, -1, -4, 0, 0, 0, 0, -1);
    }

    private static void roundedTies() {
        SumMoved x = new SumMoved();
        for (int value = 0; value < 8; value++) {
            x.row(101, 5, 0, 0, value * 8);
        }
        round(x, 0, 1, 10, 1, 1, 1, 1, 0, 0, 0, 0, 4);
        round(x, 0, 1, 7, 1, 1, 1, 1, 1, 0, 0, 0, 5);
        x.row(1, 10, 0, 0, 7 * 8);
        round(x, 0, 1, 10, 1, 1, 1, 1, 0, 0, 0, -1, 3);
        x.right(4, 6, 0);
        round(x, 0, 1, 10, 1, 1, 1, 0, 1, 0, 0, -1, 3);
    }

    private static void roundedRefused() {
        SumMoved x = new SumMoved();
        x.row(101, 14, 0, 0, 0);
        int bad = -1000000;
        for (int far : FAR) {
            Due.is("rounded, heap " + far, x.rounded(far, 0, 0, 1), bad);
            Due.is("rounded, mark " + far, x.rounded(0, far, 0, 1), bad);
            Due.is("rounded, value " + far, x.rounded(0, 0, far, 1), bad);
            Due.is("rounded, unit " + far, x.rounded(0, 0, 0, far), bad);
        }
        Due.is("rounded, heap 729", x.rounded(729, 0, 0, 1), bad);
        Due.is("rounded, mark 3", x.rounded(0, 3, 0, 1), bad);
        Due.is("rounded, value 9", x.rounded(0, 0, 9, 1), bad);
        Due.is("rounded, unit 0", x.rounded(0, 0, 0, 0), bad);
        Due.is("rounded, unit 0, the whole", x.rounded(0, 0, 8, 0), bad);
        Due.is("rounded, unit 1001", x.rounded(0, 0, 0, 1001), bad);
        Due.is("rounded, a test on mark 0", x.rounded(1, 0, 0, 1), bad);
        Due.is("rounded, a test on mark 1", x.rounded(72, 1, 8, 1), bad);
        Due.is("rounded, a test on mark 2", x.rounded(81, 2, 0, 1), bad);
        Due.is("rounded, a test on another", x.rounded(81, 0, 0, 1), 14);
    }
}
