/** Sentences of 'Terms', 1, and of promises 1 to 5 that name a boundary: one test each. */
public final class EdgesOfRowsTest {
    private static final Call ROW = Call.of("row", 0, 0, 0, 0, 0);

    public static void main(String[] args) {
        atMost120();
        numbersAreNotGivenTwice();
        month();
        day();
        top();
        base();
        member();
        marks();
        eachMark();
        missingIsAValueOfItsOwn();
        struckCountsForNothing();
        tillItIsPutBack();
        struckRowsOfAllHeaps();
        newObject();
        rowKeepsWhatIsTold();
        noneAheadOfFull();
        rightEnds();
        rightOfAStruckRow();
        rightOfNoRow();
        strikeEnds();
        strikeSaysWhatItWas();
        aboutEnds();
        aboutNoRow();
        last512();
        Due.end();
    }

    private static SumMoved ofRows(int many) {
        SumMoved x = new SumMoved();
        for (int i = 0; i < many; i++) {
            x.row(i % 2 * 100, 1, 1, i % 64, i);
        }
        return x;
    }

    private static void atMost120() {
        Due.of("ROWS, at most 120");
        SumMoved x = ofRows(119);
        Due.is("the 120th row", x.row(130, 99, 9, 63, 511), 119);
        Due.is("the 121st row", x.row(0, 0, 0, 0, 0), -2);
        Due.is("the 122nd row", x.row(130, 99, 9, 63, 511), -2);
        Due.is("rows", x.count(0), 120);
        Due.is("about the 120th", x.about(119, 2), 99);
        Due.is("about a 121st", x.about(120, 2), -1000);
        Due.is("rows of month 0", x.sum(0, 0, 1), 60);
        Due.is("rows of month 1", x.sum(0, 1, 1), 60);
        Due.is("sum of month 1", x.sum(0, 1, 0), 59 + 99);
    }

    private static void numbersAreNotGivenTwice() {
        Due.of("numbered as they came (numbers are not given twice)");
        SumMoved x = new SumMoved();
        Due.is("the first", x.row(0, 1, 0, 0, 0), 0);
        Due.is("a refused one", x.row(0, 100, 0, 0, 0), -1);
        Due.is("the next after a refused one", x.row(0, 2, 0, 0, 0), 1);
        x.strike(1, 1);
        Due.is("the next after a struck one", x.row(0, 3, 0, 0, 0), 2);
        x.strike(0, 1);
        x.strike(2, 1);
        Due.is("the next after all are struck", x.row(0, 3, 0, 0, 0), 3);
        Due.is("like an earlier one, it has its own", x.about(3, 8), 0);
        SumMoved y = ofRows(120);
        for (int i = 0; i < 120; i++) {
            y.strike(i, 1);
        }
        Due.is("120 struck ones leave no room", y.row(0, 0, 0, 0, 0), -2);
        Due.is("the first keeps its number", y.about(0, 5), 0);
        Due.is("the last keeps its number", y.about(119, 5), 119 % 8);
    }

    private static void month() {
        Due.of("each has a MONTH (0, 1)");
        SumMoved x = new SumMoved();
        Due.is("month 0", x.row(15, 1, 0, 0, 0), 0);
        Due.is("month 1", x.row(115, 2, 0, 0, 0), 1);
        Due.is("month 2", x.row(215, 4, 0, 0, 0), -1);
        Due.is("month 2, day 0", x.row(200, 4, 0, 0, 0), -1);
        Due.is("month -1", x.row(-85, 4, 0, 0, 0), -1);
        Due.is("month -1, day 0", x.row(-100, 4, 0, 0, 0), -1);
        Due.is("of month 0", x.about(0, 0), 0);
        Due.is("of month 1", x.about(1, 0), 1);
        Due.is("sum of month 0", x.sum(0, 0, 0), 1);
        Due.is("sum of month 1", x.sum(0, 1, 0), 2);
    }

    private static void day() {
        Due.of("a DAY (0 .. 30)");
        Desk.ends(SumMoved::new, ROW, 0, -1, 0, 0, 30, 0);
        Desk.ends(SumMoved::new, ROW, 0, -1, 100, 0, 130, 0);
        SumMoved x = new SumMoved();
        int[] whens = {0, 30, 100, 130};
        for (int i = 0; i < 4; i++) {
            Due.is("row on " + whens[i], x.row(whens[i], 0, 0, 0, 0), i);
            Due.is("day of " + whens[i], x.about(i, 1), whens[i] % 100);
            Due.is("month of " + whens[i], x.about(i, 0), whens[i] / 100);
        }
    }

    private static void top() {
        Due.of("TOP (-99 .. 99)");
        Desk.ends(SumMoved::new, ROW, 1, -1, -99, 0, 99, 0);
        SumMoved x = new SumMoved();
        x.row(0, -99, 0, 0, 0);
        Due.is("the least", x.about(0, 2), -99);
        x.row(0, 99, 0, 0, 0);
        Due.is("the greatest", x.about(1, 2), 99);
        x.row(0, 0, 0, 0, 0);
        Due.is("0", x.about(2, 2), 0);
    }

    private static void base() {
        Due.of("BASE (0 .. 9)");
        Desk.ends(SumMoved::new, ROW, 2, -1, 0, 0, 9, 0);
        SumMoved x = new SumMoved();
        x.row(0, 0, 0, 0, 0);
        Due.is("the least", x.about(0, 3), 0);
        x.row(0, 0, 9, 0, 0);
        Due.is("the greatest", x.about(1, 3), 9);
    }

    private static void member() {
        Due.of("a MEMBER (0 .. 63)");
        Desk.ends(SumMoved::new, ROW, 3, -1, 0, 0, 63, 0);
        SumMoved x = new SumMoved();
        x.row(0, 0, 0, 0, 0);
        Due.is("the least", x.about(0, 4), 0);
        x.row(0, 0, 0, 63, 0);
        Due.is("the greatest", x.about(1, 4), 63);
        Due.is("they are two", x.sum(0, 0, 3), 2);
    }

    private static void marks() {
        Due.of("marks: three digits of base 8, MARK 0's the lowest");
        Desk.ends(SumMoved::new, ROW, 4, -1, 0, 0, 511, 0);
        SumMoved x = new SumMoved();
        int[][] told = {{0, 0, 0, 0}, {1, 1, 0, 0}, {8, 0, 1, 0}, {64, 0, 0, 1}, {7, 7, 0, 0}, {56, 0, 7, 0},
            {448, 0, 0, 7}, {511, 7, 7, 7}, {63, 7, 7, 0}, {6 + 8 * 5 + 64 * 4, 6, 5, 4}};
        for (int i = 0; i < told.length; i++) {
            x.row(0, 0, 0, 0, told[i][0]);
            for (int mark = 0; mark < 3; mark++) {
                Due.is("mark " + mark + " of " + told[i][0], x.about(i, 5 + mark), told[i][1 + mark]);
            }
        }
    }

    private static void eachMark() {
        Due.of("MARKS 0, 1, 2, each a value 0 .. 6, or 7");
        int[] places = {1, 8, 64}, tests = {1, 9, 81};
        for (int mark = 0; mark < 3; mark++) {
            SumMoved x = new SumMoved();
            for (int value = 0; value < 8; value++) {
                x.row(0, 1 + value, 0, 0, value * places[mark]);
                Due.is("the value", x.about(value, 5 + mark), value);
                Due.is("its heap", x.sum((value + 1) * tests[mark], 0, 0), 1 + value);
            }
        }
    }

    private static void missingIsAValueOfItsOwn() {
        Due.of("or 7: missing (a value of its own)");
        SumMoved x = new SumMoved();
        x.row(0, 1, 1, 0, Desk.marks(7, 7, 7));
        x.row(100, 2, 1, 0, Desk.marks(7, 7, 7));
        x.row(100, 4, 1, 1, Desk.marks(6, 0, 7));
        int[] tests = {1, 9, 81};
        for (int mark = 0; mark < 3; mark++) {
            Due.is("rows with it", x.sum(8 * tests[mark], 1, 0), mark == 2 ? 6 : 2);
            Due.is("it is not 6", x.sum(7 * tests[mark], 1, 0), mark == 0 ? 4 : 0);
            Due.is("it is not 0", x.sum(tests[mark], 1, 0), mark == 1 ? 4 : 0);
            Due.is("it stays itself", x.move(mark, 0), 2);
        }
        Due.is("it has a part of a change", x.rounded(0, 0, 7, 1), 1);
        Due.is("it has a part of a rate", x.part(0, 0, 7, 0, 1), 4);
        Due.is("a story may be of it", x.toll(8, -1, 0), 4);
        // Of one test 2, 2, 1; of two 2, 2, 2.
        Due.is("its heaps count", x.count(2), 11);
    }

    /** about() and the counts of rows are left out: a struck row keeps these. */
    private static void alike(String when, SumMoved x, SumMoved y) {
        for (Call call : Probes.OF_HEAPS) {
            Due.is(when + ": " + call, call.on(x), call.on(y));
        }
    }

    private static SumMoved fiveAnd(int... row) {
        SumMoved x = Desk.five();
        if (row.length == 5) {
            x.row(row[0], row[1], row[2], row[3], row[4]);
        }
        return x;
    }

    private static void struckCountsForNothing() {
        Due.of("A ROW may be STRUCK: it counts for nothing from then on");
        SumMoved x = fiveAnd(101, 77, 9, 5, Desk.marks(0, 7, 3));
        x.strike(5, 1);
        alike("one of month 1", x, Desk.five());
        SumMoved y = fiveAnd(0, -99, 9, 0, 0);
        y.strike(5, 1);
        alike("one of month 0", y, Desk.five());
        SumMoved z = Desk.five();
        for (int row = 0; row < 5; row++) {
            z.strike(row, 1);
        }
        alike("all of them", z, new SumMoved());
        Due.is("struck ones", z.count(1), 5);
    }

    private static void tillItIsPutBack() {
        Due.of("it counts for nothing from then on, till it is put back");
        SumMoved x = Desk.five();
        for (int row = 0; row < 5; row++) {
            x.strike(row, 1);
            x.strike(row, 1);
            x.strike(row, 0);
        }
        alike("all put back", x, Desk.five());
        Due.is("struck ones", x.count(1), 0);
    }

    private static void struckRowsOfAllHeaps() {
        Due.of("All of this is of ROWS that are not STRUCK");
        SumMoved x = new SumMoved();
        x.row(0, 5, 3, 9, Desk.marks(1, 2, 3));
        x.strike(0, 1);
        int[] heaps = {0, Desk.heap(2, 0, 0), Desk.heap(0, 3, 0), Desk.heap(0, 0, 4), Desk.heap(2, 3, 0),
            Desk.heap(2, 3, 4)};
        for (int heap : heaps) {
            for (int measure = 0; measure < 4; measure++) {
                Due.is("sum(" + heap + ", 0, " + measure + ")", x.sum(heap, 0, measure), 0);
                Due.is("change(" + heap + ", " + measure + ")", x.change(heap, measure), 0);
            }
            Due.is("no rate", x.rate(heap, 0, 1), 0);
            Due.is("no day", x.first(heap, 0), 31);
            Due.is("no story", x.toll(heap, -1, 0), -1);
        }
        Due.is("no heaps", x.count(2), 0);
    }

    private static void newObject() {
        Due.of("SumMoved(): No rows");
        SumMoved x = new SumMoved();
        for (int what = 0; what < 3; what++) {
            Due.is("count(" + what + ")", x.count(what), 0);
        }
        for (int month = 0; month < 2; month++) {
            for (int measure = 0; measure < 4; measure++) {
                Due.is("sum(0, " + month + ", " + measure + ")", x.sum(0, month, measure), 0);
                Due.is("sum(728, " + month + ", " + measure + ")", x.sum(728, month, measure), 0);
            }
        }
        for (int measure = 0; measure < 4; measure++) {
            Due.is("change(0, " + measure + ")", x.change(0, measure), 0);
        }
        for (int what = 0; what < 9; what++) {
            Due.is("about(0, " + what + ")", x.about(0, what), -1000);
        }
        Due.is("shift", x.shift(0, 0), SumMoved.NO);
        Due.is("part", x.part(0, 0, 0, 0, 0), SumMoved.NO);
        for (int how = 0; how < 4; how++) {
            Due.is("moves(0, " + how + ")", x.moves(0, how), 0);
        }
        Due.is("move(0, 0)", x.move(0, 0), 4);
        Due.is("move(2, 63)", x.move(2, 63), 4);
        Due.is("rounded, a part", x.rounded(0, 0, 0, 1), 0);
        Due.is("rounded, the whole", x.rounded(0, 0, 8, 1000), 0);
        Due.is("toll", x.toll(1, -1, 0), -1);
        Due.is("first", x.first(0, 0), 31);
        Due.is("the first row", x.row(0, 0, 0, 0, 0), 0);
        Due.is("rows of an object made later", new SumMoved().count(0), 0);
    }

    private static void rowKeepsWhatIsTold() {
        Due.of("A ROW: its number. when: 100 times MONTH, and DAY");
        SumMoved x = new SumMoved();
        int[][] ends = {{0, -99, 0, 0, 0}, {130, 99, 9, 63, 511}, {30, 0, 1, 1, 1}, {100, -1, 8, 62, 510}};
        for (int i = 0; i < 4; i++) {
            int[] e = ends[i];
            Due.is("its number", x.row(e[0], e[1], e[2], e[3], e[4]), i);
        }
        for (int i = 0; i < 4; i++) {
            int[] e = ends[i];
            int[] want = {e[0] / 100, e[0] % 100, e[1], e[2], e[3], e[4] % 8, e[4] / 8 % 8, e[4] / 64, 0};
            for (int what = 0; what < 9; what++) {
                Due.is("about(" + i + ", " + what + ")", x.about(i, what), want[what]);
            }
        }
    }

    private static void noneAheadOfFull() {
        Due.of("row: NONE, FULL (the first that a call names)");
        int[][] wrong = {{-1, 0}, {31, 0}, {200, 0}, {-100, 1}, {100, 1}, {-1, 2}, {10, 2}, {-1, 3}, {64, 3},
            {-1, 4}, {512, 4}};
        for (int[] w : wrong) {
            Desk.ask(Desk::full, ROW.but(w[1], w[0]), -1);
            Desk.ask(() -> ofRows(119), ROW.but(w[1], w[0]), -1);
        }
        Desk.ask(Desk::full, ROW, -2);
        Desk.ask(() -> ofRows(119), ROW, 119);
    }

    private static void rightEnds() {
        Due.of("TOP and BASE of a ROW are put right: 1. NONE");
        Call right = Call.of("right", 0, 0, 0);
        Desk.ends(Desk::five, right, 0, -1, 0, 1, 4, 1);
        Desk.ends(Desk::full, right, 0, -1, 0, 1, 119, 1);
        Desk.ends(Desk::five, right, 1, -1, -99, 1, 99, 1);
        Desk.ends(Desk::five, right, 2, -1, 0, 1, 9, 1);
        SumMoved x = Desk.five();
        x.right(0, -99, 0);
        x.right(4, 99, 9);
        Due.is("the least top", x.about(0, 2), -99);
        Due.is("the least base", x.about(0, 3), 0);
        Due.is("the greatest top", x.about(4, 2), 99);
        Due.is("the greatest base", x.about(4, 3), 9);
        int[] kept = {1, 15, 99, 9, 63, 7, 7, 7, 0};
        for (int what = 0; what < 9; what++) {
            Due.is("all else is kept: " + what, x.about(4, what), kept[what]);
        }
        Due.is("the sum of month 0", x.sum(0, 0, 0), -119);
        Due.is("the bases of month 1", x.sum(0, 1, 2), 15);
    }

    private static void rightOfAStruckRow() {
        Due.of("TOP and BASE of a ROW are put right (of a STRUCK one, which stays so)");
        SumMoved x = fiveAnd(101, 77, 9, 5, 0);
        x.strike(5, 1);
        Due.is("right", x.right(5, -99, 1), 1);
        Due.is("still struck", x.about(5, 8), 1);
        Due.is("its top", x.about(5, 2), -99);
        Due.is("its base", x.about(5, 3), 1);
        alike("it counts for nothing", x, Desk.five());
        SumMoved y = fiveAnd(101, 77, 9, 5, 0);
        y.strike(5, 1);
        y.right(5, -99, 1);
        y.strike(5, 0);
        alike("put back", y, fiveAnd(101, -99, 1, 5, 0));
    }

    private static void rightOfNoRow() {
        Due.of("TOP and BASE of a ROW: there is no such thing");
        for (int row : new int[] {-1, 0, 1, 119, 120}) {
            Desk.ask(SumMoved::new, Call.of("right", row, 0, 0), -1);
        }
        Desk.ask(() -> ofRows(1), Call.of("right", 0, 0, 0), 1);
        Desk.ask(() -> ofRows(1), Call.of("right", 1, 0, 0), -1);
    }

    private static void strikeEnds() {
        Due.of("A ROW is STRUCK (1), put back (0). NONE");
        Call strike = Call.of("strike", 0, 1);
        Desk.ends(Desk::five, strike, 0, -1, 0, 0, 4, 0);
        Desk.ends(Desk::full, strike, 0, -1, 0, 0, 119, 0);
        Desk.ends(Desk::five, strike, 1, -1, 0, 0, 1, 0);
        for (int row : new int[] {-1, 0, 119, 120}) {
            Desk.ask(SumMoved::new, Call.of("strike", row, 0), -1);
            Desk.ask(SumMoved::new, Call.of("strike", row, 1), -1);
        }
    }

    private static void strikeSaysWhatItWas() {
        Due.of("A ROW is STRUCK (1), put back (0): what it was");
        SumMoved x = Desk.five();
        int[][] turns = {{0, 0, 0}, {1, 0, 1}, {1, 1, 1}, {0, 1, 0}, {0, 0, 0}, {1, 0, 1}, {0, 1, 0}};
        for (int[] t : turns) {
            Due.is("strike(4, " + t[0] + ")", x.strike(4, t[0]), t[1]);
            Due.is("about(4, 8)", x.about(4, 8), t[2]);
            Due.is("about(3, 8)", x.about(3, 8), 0);
            Due.is("count(1)", x.count(1), t[2]);
        }
    }

    private static void aboutEnds() {
        Due.of("-1000: no such ROW, what");
        Call about = Call.of("about", 0, 2);
        Desk.ends(Desk::five, about, 0, -1000, 0, 10, 4, 8);
        Desk.ends(() -> ofRows(120), about, 0, -1000, 0, 1, 119, 1);
        Desk.ends(Desk::five, Call.of("about", 1, 0), 1, -1000, 0, 0, 8, 0);
        Desk.ends(Desk::five, Call.of("about", 4, 0), 1, -1000, 0, 1, 8, 0);
        SumMoved x = new SumMoved();
        x.row(0, -1, 0, 0, 0);
        Due.is("a top of -1 is no refusal", x.about(0, 2), -1);
    }

    private static void aboutNoRow() {
        Due.of("Of a ROW: 0 MONTH .. 8 whether STRUCK; no such ROW");
        for (int what = 0; what < 9; what++) {
            Desk.ask(SumMoved::new, Call.of("about", 0, what), -1000);
            Desk.ask(Desk::five, Call.of("about", 5, what), -1000);
            Desk.ask(Desk::five, Call.of("about", -1, what), -1000);
            Desk.ask(Desk::full, Call.of("about", 120, what), -1000);
        }
    }

    private static void last512() {
        Due.of("An object is used for at most 512 calls after it has been made");
        SumMoved x = ofRows(120);
        for (int call = 121; call <= 505; call++) {
            Due.is("seek, call " + call, x.seek(call % 7, call % 3) >= 0 ? 1 : 0, 1);
        }
        Due.is("call 506", x.right(119, 99, 9), 1);
        Due.is("call 507", x.strike(0, 1), 0);
        Due.is("call 508", x.count(0), 120);
        Due.is("call 509", x.sum(0, 0, 0), 59);
        Due.is("call 510", x.sum(0, 1, 0), 59 + 99);
        Due.is("call 511", x.row(0, 0, 0, 0, 0), -2);
        Due.is("call 512", x.seek(0, 0), 99);
    }
}
