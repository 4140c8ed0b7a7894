/** Promises 1 to 5: a new object, row, right, strike, about. */
public final class RowsTest {
    public static void main(String[] args) {
        newObject();
        rowIsKept();
        rowEdges();
        rowRefused();
        rowFull();
        right();
        strike();
        aboutRefused();
        Due.end();
    }

    private static void newObject() {
        SumMoved x = new SumMoved();
        Due.is("count(0) of a new one", x.count(0), 0);
        Due.is("count(1) of a new one", x.count(1), 0);
        Due.is("count(2) of a new one", x.count(2), 0);
        Due.is("about(0, 0) of a new one", x.about(0, 0), -1000);
        Due.is("sum of a new one", x.sum(0, 0, 1), 0);
        Due.is("outcome(31) of a new one", x.outcome(31), 0);
        Due.is("expect of a new one", x.expect(5), 0);
        Due.is("story of a new one", x.story(0), -1000000);
        Due.is("first of a new one", x.first(0, 0), 31);
        SumMoved other = new SumMoved();
        x.row(0, 1, 1, 1, 1);
        Due.is("rows of another object", other.count(0), 0);
    }

    private static void fields(String of, SumMoved x, int row, int... want) {
        for (int what = 0; what < 9; what++) {
            Due.is(of + ": about(" + row + ", " + what + ")", x.about(row, what), want[what]);
        }
    }

    private static void rowIsKept() {
        SumMoved x = new SumMoved();
        Due.is("row", x.row(117, -42, 7, 33, 5 * 64 + 3 * 8 + 6), 0);
        Due.is("row", x.row(4, 8, 1, 2, 7 * 64 + 1), 1);
        fields("kept", x, 0, 1, 17, -42, 7, 33, 6, 3, 5, 0);
        fields("kept", x, 1, 0, 4, 8, 1, 2, 1, 0, 7, 0);
    }

    private static void rowEdges() {
        SumMoved x = new SumMoved();
        Due.is("row, all least", x.row(0, -99, 0, 0, 0), 0);
        Due.is("row, all greatest", x.row(130, 99, 9, 63, 511), 1);
        Due.is("row, last day of month 0", x.row(30, 0, 0, 0, 0), 2);
        Due.is("row, first day of month 1", x.row(100, 0, 0, 0, 0), 3);
        fields("least", x, 0, 0, 0, -99, 0, 0, 0, 0, 0, 0);
        fields("greatest", x, 1, 1, 30, 99, 9, 63, 7, 7, 7, 0);
        Due.is("day 30", x.about(2, 1), 30);
        Due.is("month 1", x.about(3, 0), 1);
        Due.is("day 0", x.about(3, 1), 0);
    }

    private static void rowRefused() {
        SumMoved x = new SumMoved();
        int[] whens = {-1, -100, 31, 99, 131, 199, 200, 1000, Integer.MIN_VALUE, Integer.MAX_VALUE};
        for (int when : whens) {
            Due.is("row when " + when, x.row(when, 0, 0, 0, 0), -1);
        }
        int[][] others = {{-100, 0, 0, 0}, {100, 0, 0, 0}, {0, -1, 0, 0}, {0, 10, 0, 0}, {0, 0, -1, 0},
            {0, 0, 64, 0}, {0, 0, 0, -1}, {0, 0, 0, 512}, {Integer.MIN_VALUE, 0, 0, 0}, {0, 0, 0, Integer.MAX_VALUE}};
        for (int[] o : others) {
            Due.is("row with a wrong number", x.row(0, o[0], o[1], o[2], o[3]), -1);
        }
        Due.is("rows after refusals", x.count(0), 0);
        Due.is("the number after refusals", x.row(0, 0, 0, 0, 0), 0);
    }

    private static void rowFull() {
        SumMoved x = new SumMoved();
        for (int i = 0; i < 120; i++) {
            Due.is("row " + i, x.row(i % 2 * 100 + i % 31, i - 60, i % 10, i % 64, i), i);
        }
        Due.is("row beyond 120", x.row(0, 0, 0, 0, 0), -2);
        Due.is("a wrong row beyond 120", x.row(31, 0, 0, 0, 0), -1);
        Due.is("strike the last", x.strike(119, 1), 0);
        Due.is("a struck row gives no room", x.row(0, 0, 0, 0, 0), -2);
        Due.is("count(0) when full", x.count(0), 120);
        Due.is("about the last", x.about(119, 2), 59);
        Due.is("about beyond the last", x.about(120, 2), -1000);
    }

    private static void right() {
        SumMoved x = new SumMoved();
        x.row(12, 5, 3, 1, 10);
        x.row(13, 6, 4, 1, 10);
        Due.is("right", x.right(0, -99, 9), 1);
        fields("put right", x, 0, 0, 12, -99, 9, 1, 2, 1, 0, 0);
        fields("another row", x, 1, 0, 13, 6, 4, 1, 2, 1, 0, 0);
        Due.is("sum after right", x.sum(0, 0, 0), -93);
        Due.is("bases after right", x.sum(0, 0, 2), 13);
        int[][] wrong = {{-1, 0, 0}, {2, 0, 0}, {Integer.MAX_VALUE, 0, 0}, {Integer.MIN_VALUE, 0, 0}, {0, 100, 0},
            {0, -100, 0}, {0, 0, 10}, {0, 0, -1}};
        for (int[] w : wrong) {
            Due.is("right, a wrong number", x.right(w[0], w[1], w[2]), -1);
        }
        fields("after refusals", x, 0, 0, 12, -99, 9, 1, 2, 1, 0, 0);
        x.strike(0, 1);
        Due.is("right of a struck row", x.right(0, 50, 1), 1);
        Due.is("sum without it", x.sum(0, 0, 0), 6);
        x.strike(0, 0);
        Due.is("sum with it again", x.sum(0, 0, 0), 56);
    }

    private static void strike() {
        SumMoved x = new SumMoved();
        x.row(12, 5, 3, 1, 10);
        x.row(13, 6, 4, 2, 10);
        Due.is("strike", x.strike(0, 1), 0);
        Due.is("strike again", x.strike(0, 1), 1);
        Due.is("whether struck", x.about(0, 8), 1);
        Due.is("whether another is struck", x.about(1, 8), 0);
        Due.is("top of a struck row", x.about(0, 2), 5);
        Due.is("sum without it", x.sum(0, 0, 0), 6);
        Due.is("count without it", x.sum(0, 0, 1), 1);
        Due.is("its member has no rows", x.move(0, 1), 4);
        Due.is("struck ones", x.count(1), 1);
        Due.is("a new row's number", x.row(1, 1, 1, 1, 1), 2);
        Due.is("strike, wrong is", x.strike(0, 2), -1);
        Due.is("strike, wrong is", x.strike(0, -1), -1);
        Due.is("strike, wrong row", x.strike(3, 1), -1);
        Due.is("strike, wrong row", x.strike(-1, 0), -1);
        Due.is("still struck", x.about(0, 8), 1);
        Due.is("put back", x.strike(0, 0), 1);
        Due.is("put back again", x.strike(0, 0), 0);
        Due.is("sum with it", x.sum(0, 0, 0), 12);
        Due.is("no struck ones", x.count(1), 0);
    }

    private static void aboutRefused() {
        SumMoved x = new SumMoved();
        x.row(12, 5, 3, 1, 10);
        int[][] wrong = {{0, -1}, {0, 9}, {0, Integer.MAX_VALUE}, {0, Integer.MIN_VALUE}, {-1, 0}, {1, 0},
            {Integer.MAX_VALUE, 0}, {Integer.MIN_VALUE, 0}, {120, 0}};
        for (int[] w : wrong) {
            Due.is("about(" + w[0] + ", " + w[1] + ")", x.about(w[0], w[1]), -1000);
        }
    }
}
