/** Sentences of 'Terms', 4 (stories, the first day), and of promises 17 to 22 that name a boundary: one test each. */
public final class EdgesOfStoriesTest {
    private static final int BAD = Desk.BAD;

    public static void main(String[] args) {
        expectedEnds();
        expectedIsTakenOff();
        expectSaysWhatItWas();
        costEnds();
        heapsEnds();
        noHeapsAtAll();
        heapsOfOneOrTwoTests();
        notOfThreeTests();
        withSomeRowInSomeMonth();
        ofAllHeaps();
        noRowInBoth();
        noRowInBothOf120();
        rowsOfOneHeapEach();
        tollWithoutSign();
        costForEachTest();
        likeTollsFewestHeaps();
        likeTollsLesserFirst();
        likeTollsLesserSecond();
        lesserOneStandsFirst();
        latestSeek();
        storyEnds();
        beforeAny();
        tollEnds();
        tollOfOneAlone();
        tollTests();
        tollNoRow();
        tollState();
        noneAheadOfState();
        firstLeastDay();
        firstMoreThanTheBound();
        firstEnds();
        firstNone();
        countEnds();
        countHeaps();
        Due.end();
    }

    private static int heap(int digit0, int digit1, int digit2) {
        return Desk.heap(digit0, digit1, digit2);
    }

    /** A row of month 1: its top and its three values. */
    private static int[] of(int... topAndValues) {
        return topAndValues;
    }

    private static SumMoved rows(int[]... rows) {
        SumMoved x = new SumMoved();
        for (int[] r : rows) {
            x.row(100, r[0], 0, 0, Desk.marks(r[1], r[2], r[3]));
        }
        return x;
    }

    private static void best(SumMoved x, int... want) {
        for (int what = 0; what < 4; what++) {
            Due.is("story(" + what + ")", x.story(what), want[what]);
        }
    }

    private static SumMoved of120(int when, int top) {
        SumMoved x = new SumMoved();
        for (int i = 0; i < 120; i++) {
            x.row(when, top, 0, 0, 0);
        }
        return x;
    }

    private static void expectedEnds() {
        Due.of("EXPECTED: a number (-9999 .. 9999). -1000000: NONE");
        Desk.ends(SumMoved::new, Call.of("expect", 0), 0, BAD, -9999, 0, 9999, 0);
        Desk.ends(Desk::busy, Call.of("expect", 0), 0, BAD, -9999, 7, 9999, 7);
        SumMoved x = new SumMoved();
        x.expect(-1);
        Due.is("-1 was expected: no refusal", x.expect(0), -1);
    }

    private static void expectedIsTakenOff() {
        Due.of("EXPECTED: taken off the CHANGE of SUM of all ROWS: what is left is to be told");
        SumMoved x = of120(100, 99);
        x.expect(-9999);
        Due.is("the most left", x.seek(1000, 0), 11880 + 9999);
        best(x, 0, -1, -1, 21879);
        x.expect(9999);
        Due.is("less left", x.seek(1000, 0), 11880 - 9999);
        SumMoved y = of120(0, 99);
        y.expect(9999);
        Due.is("the least left", y.seek(1000, 0), 21879);
        best(y, 0, -1, -1, -21879);
        y.expect(-9999);
        Due.is("the rest", y.seek(1000, 0), 1881);
        best(y, 0, -1, -1, -1881);
    }

    private static void expectSaysWhatItWas() {
        Due.of("EXPECTED: what it was (0 at first)");
        SumMoved x = new SumMoved();
        Due.is("at first", x.expect(9999), 0);
        Due.is("then", x.expect(-9999), 9999);
        Due.is("refused", x.expect(-10000), BAD);
        Due.is("refused", x.expect(10000), BAD);
        Due.is("as before the refused ones", x.expect(0), -9999);
        Due.is("0", x.expect(0), 0);
    }

    private static void costEnds() {
        Due.of("a COST c (0 .. 1000 for each TEST); seek: NONE: c");
        Call seek = Call.of("seek", 0, 2);
        Desk.ends(() -> rows(of(99, 1, 1, 1)), seek, 0, -1, 0, 0, 1000, 99);
        Desk.ends(() -> of120(100, 99), seek, 0, -1, 0, 0, 1000, 1000);
        Desk.ends(SumMoved::new, seek, 0, -1, 0, 0, 1000, 0);
    }

    private static void heapsEnds() {
        Due.of("and n (0, 1, 2) HEAPS; seek: NONE: n");
        // No heap leaves 18, one 7, two nothing.
        Call seek = Call.of("seek", 1, 0);
        Desk.ends(() -> twoApart(), seek, 1, -1, 0, 18, 2, 2);
        Desk.ask(() -> twoApart(), seek.but(1, 1), 8);
        Desk.ends(SumMoved::new, seek, 1, -1, 0, 0, 2, 0);
        Desk.ask(SumMoved::new, Call.of("seek", -1, 3), -1);
        Desk.ask(SumMoved::new, Call.of("seek", 1001, -1), -1);
    }

    /** 7 and 11, with no value in common: heaps 1 and 2 have one each. */
    private static SumMoved twoApart() {
        return rows(of(7, 0, 0, 0), of(11, 1, 1, 1));
    }

    private static void noHeapsAtAll() {
        Due.of("of all sets of at most n HEAPS (none among them)");
        SumMoved x = new SumMoved();
        for (int n = 0; n < 3; n++) {
            Due.is("seek(0, " + n + ") without rows", x.seek(0, n), 0);
            best(x, 0, -1, -1, 0);
        }
        x.expect(5);
        Due.is("all is left", x.seek(0, 2), 5);
        best(x, 0, -1, -1, -5);
        SumMoved y = twoApart();
        Due.is("no heap is worth its cost", y.seek(19, 2), 18);
        best(y, 0, -1, -1, 18);
        Due.is("none asked for", y.seek(0, 0), 18);
        best(y, 0, -1, -1, 18);
    }

    private static void heapsOfOneOrTwoTests() {
        Due.of("HEAPS with 1 or 2 TESTS");
        SumMoved x = twoApart();
        // The heap of all rows would tell 18 alone.
        Due.is("not of no tests", x.seek(0, 1), 7);
        best(x, 1, heap(2, 0, 0), -1, 7);
        SumMoved y = rows(of(50, 0, 0, 0), of(3, 0, 1, 1), of(4, 1, 0, 1));
        y.expect(7);
        // 50 is left: MARK 2's value 0 has it alone; once another row has that value, just two tests have it.
        Due.is("of one test", y.seek(1, 1), 1);
        best(y, 1, heap(0, 0, 1), -1, 0);
        y.row(100, 5, 0, 0, Desk.marks(2, 2, 0));
        y.expect(12);
        Due.is("of two tests", y.seek(1, 1), 2);
        best(y, 1, heap(1, 1, 0), -1, 0);
    }

    private static void notOfThreeTests() {
        Due.of("HEAPS with 1 or 2 TESTS (not 3)");
        SumMoved x = rows(of(50, 0, 0, 0), of(3, 0, 0, 1), of(3, 0, 1, 0), of(3, 1, 0, 0));
        x.expect(9);
        // 50 is left, and just three tests have it alone.
        Due.is("one", x.seek(0, 1), 3);
        best(x, 1, heap(1, 1, 0), -1, -3);
        Due.is("toll of three tests", x.toll(heap(1, 1, 1), -1, 0), -1);
    }

    private static void withSomeRowInSomeMonth() {
        Due.of("each with some ROW in some MONTH");
        SumMoved x = new SumMoved();
        x.row(0, 5, 0, 0, 0);
        Due.is("in month 0 alone", x.seek(0, 1), 0);
        best(x, 1, 1, -1, 0);
        Due.is("in month 0 alone, told", x.toll(1, -1, 0), 0);
        SumMoved y = rows(of(5, 0, 0, 0));
        Due.is("in month 1 alone", y.seek(0, 1), 0);
        best(y, 1, 1, -1, 0);
        y.row(100, 0, 0, 0, 511);
        Due.is("a row of top 0 is a row", y.toll(8, -1, 0), 5);
        Due.is("no row", y.toll(7, -1, 0), -1);
        y.strike(0, 1);
        y.strike(1, 1);
        Due.is("all struck", y.seek(0, 2), 0);
        best(y, 0, -1, -1, 0);
        Due.is("a struck row is none", y.toll(1, -1, 0), -1);
        y.expect(-5);
        // What an earlier seek() had a heap for is not told by it any more.
        Due.is("all struck, and 5 left", y.seek(0, 2), 5);
        best(y, 0, -1, -1, 5);
    }

    private static void ofAllHeaps() {
        Due.of("of all sets of at most n HEAPS (all 216 of them)");
        SumMoved x = new SumMoved();
        for (int i = 0; i < 120; i++) {
            x.row(100, i < 119 ? 1 : 99, 0, 0, Desk.marks(i % 8, i / 8 % 8, (i + i / 8) % 8));
        }
        Due.is("heaps", x.count(2), 216);
        // Row 119 is of the values 7, 6, 5: with row 55 it is alone in the greatest heap of these.
        x.expect(119 + 99 - 100);
        Due.is("one", x.seek(1, 1), 2);
        best(x, 1, heap(8, 7, 0), -1, 0);
        x.expect(119 + 99 - 102);
        Due.is("two", x.seek(0, 2), 0);
        best(x, 2, heap(1, 1, 0), heap(8, 7, 0), 0);
        for (int i = 0; i < 119; i++) {
            x.strike(i, 1);
        }
        x.expect(-1);
        Due.is("those of one row", x.seek(0, 2), 1);
        best(x, 1, heap(8, 0, 0), -1, 1);
    }

    private static void noRowInBoth() {
        Due.of("of two: no ROW in both");
        SumMoved x = rows(of(10, 0, 0, 0), of(10, 1, 1, 0), of(10, 0, 2, 0), of(-99, 7, 7, 7));
        // MARK 0's value 0 is 20, MARK 2's is 30: 50 would be all that is left, but they share rows.
        x.expect(-69 - 50);
        Due.is("seek", x.seek(0, 2), 20);
        best(x, 1, heap(0, 0, 1), -1, 20);
        Due.is("told", x.toll(heap(1, 0, 0), heap(0, 0, 1), 0), -3);
    }

    private static void noRowInBothOf120() {
        Due.of("of two: no ROW in both (of 120, any one)");
        for (int at : new int[] {0, 1, 62, 63, 64, 65, 118, 119}) {
            SumMoved x = new SumMoved();
            for (int i = 0; i < 120; i++) {
                int others = i % 2 == 0 ? Desk.marks(1, 2, 0) : Desk.marks(2, 1, 0);
                x.row(100, 0, 0, 0, i == at ? Desk.marks(1, 1, 0) : others);
            }
            x.right(2, 7, 0);
            x.right(3, 11, 0);
            x.right(at, 10, 0);
            x.expect(-10);
            // 38 is left: 17 and 21, if the row in both were told twice; all rows together are 28.
            Due.is("row " + at + " is in both", x.toll(heap(2, 0, 0), heap(0, 2, 0), 0), -3);
            Due.is("row " + at + " is told once", x.seek(0, 2), 10);
            best(x, 1, heap(0, 0, 1), -1, 10);
            x.strike(at, 1);
            Due.is("row " + at + " is struck", x.toll(heap(2, 0, 0), heap(0, 2, 0), 0), 10);
        }
    }

    private static void rowsOfOneHeapEach() {
        Due.of("of two: no ROW in both (each ROW is one of its own)");
        int[][] pairs = {{0, 64}, {55, 119}, {0, 63}, {63, 64}, {0, 119}, {0, 1}, {118, 119}};
        for (int[] pair : pairs) {
            SumMoved x = new SumMoved();
            for (int i = 0; i < 120; i++) {
                x.row(100, 0, 0, 0, i == pair[0] ? Desk.marks(1, 1, 1) : i == pair[1] ? Desk.marks(2, 2, 2) : 0);
            }
            x.right(pair[0], 40, 0);
            x.right(pair[1], 50, 0);
            x.right(pair[0] == 2 ? 3 : 2, 1, 0);
            Due.is("row " + pair[0] + " alone", x.toll(heap(2, 0, 0), -1, 0), 51);
            Due.is("row " + pair[1] + " alone", x.toll(heap(3, 0, 0), -1, 0), 41);
            Due.is("both", x.toll(heap(2, 0, 0), heap(0, 3, 0), 0), 1);
            Due.is("seek finds both", x.seek(3, 2), 6 + 1);
            best(x, 2, heap(2, 0, 0), heap(3, 0, 0), 1);
            Due.is("their heaps and those of the others", x.count(2), 3 * 6);
        }
    }

    private static void tollWithoutSign() {
        Due.of("TOLL is REST without its sign, and c for each TEST");
        SumMoved x = rows(of(9, 0, 0, 0));
        Due.is("rest 0", x.toll(1, -1, 0), 0);
        x.expect(9999);
        Due.is("rest under 0", x.toll(1, -1, 3), 9999 + 3);
        Due.is("nothing told", x.seek(1000, 0), 9990);
        best(x, 0, -1, -1, -9990);
        x.expect(-9999);
        Due.is("rest over 0", x.toll(1, -1, 3), 9999 + 3);
        Due.is("the rest keeps its sign", x.seek(1000, 0), 10008);
        best(x, 0, -1, -1, 10008);
    }

    private static void costForEachTest() {
        Due.of("c for each TEST");
        SumMoved x = twoApart();
        int[][] told = {{heap(1, 0, 0), -1, 1}, {heap(1, 1, 0), -1, 2}, {heap(1, 0, 0), heap(2, 0, 0), 2},
            {heap(1, 1, 0), heap(2, 0, 0), 3}, {heap(0, 1, 1), heap(2, 0, 2), 4}};
        for (int[] t : told) {
            int rest = t[1] == -1 ? 11 : 0;
            Due.is("at 0", x.toll(t[0], t[1], 0), rest);
            Due.is("at 1", x.toll(t[0], t[1], 1), rest + t[2]);
            Due.is("at 1000", x.toll(t[0], t[1], 1000), rest + 1000 * t[2]);
        }
    }

    private static void likeTollsFewestHeaps() {
        Due.of("The BEST has the least TOLL, of like ones the fewest HEAPS");
        SumMoved x = rows(of(10, 4, 4, 4));
        Due.is("none or one at 10", x.seek(10, 2), 10);
        best(x, 0, -1, -1, 10);
        Due.is("one at 9", x.seek(9, 2), 9);
        best(x, 1, heap(5, 0, 0), -1, 0);
        SumMoved y = twoApart();
        Due.is("one or two at 7", y.seek(7, 2), 14);
        best(y, 1, heap(2, 0, 0), -1, 7);
        Due.is("two at 6", y.seek(6, 2), 12);
        best(y, 2, heap(1, 0, 0), heap(2, 0, 0), 0);
    }

    private static void likeTollsLesserFirst() {
        Due.of("then the lesser first HEAP");
        SumMoved x = rows(of(10, 7, 3, 0), of(10, 6, 2, 1), of(0, 0, 0, 2));
        x.expect(10);
        Due.is("one of two", x.seek(1, 1), 1);
        best(x, 1, heap(7, 0, 0), -1, 0);
        // Two tests on lower marks are a lesser number than one test on a higher mark.
        SumMoved y = rows(of(5, 1, 1, 1), of(2, 1, 2, 2), of(2, 2, 1, 2));
        y.expect(4);
        Due.is("at no price the least number", y.seek(0, 1), 0);
        best(y, 1, heap(2, 2, 0), -1, 0);
        Due.is("at a price the fewest tests", y.seek(1, 1), 1);
        best(y, 1, heap(0, 0, 2), -1, 0);
        // Over or under by the same.
        SumMoved z = rows(of(8, 1, 0, 0), of(12, 0, 0, 0));
        z.expect(10);
        Due.is("over and under", z.seek(0, 1), 2);
        best(z, 1, heap(1, 0, 0), -1, -2);
    }

    private static void likeTollsLesserSecond() {
        Due.of("then the lesser second one");
        SumMoved x = rows(of(5, 0, 0, 0), of(6, 2, 2, 2), of(6, 1, 1, 1), of(-90, 7, 7, 7));
        x.expect(-73 - 11);
        Due.is("two", x.seek(1, 2), 2);
        best(x, 2, heap(1, 0, 0), heap(2, 0, 0), 0);
        // Where MARK 0 does not part them, the second is of a higher mark.
        SumMoved y = rows(of(5, 0, 0, 0), of(6, 1, 2, 3), of(40, 1, 3, 2), of(-90, 7, 7, 7));
        y.expect(-39 - 11);
        Due.is("two, of other marks", y.seek(1, 2), 2);
        best(y, 2, heap(1, 0, 0), heap(0, 3, 0), 0);
    }

    private static void lesserOneStandsFirst() {
        Due.of("(of two the lesser one stands first)");
        SumMoved x = rows(of(11, 1, 1, 1), of(7, 0, 0, 0));
        Due.is("two", x.seek(0, 2), 0);
        best(x, 2, heap(1, 0, 0), heap(2, 0, 0), 0);
        Due.is("told in another order", x.toll(heap(2, 0, 0), heap(1, 0, 0), 0), 0);
    }

    private static void latestSeek() {
        Due.of("Of the BEST that the latest seek() found");
        SumMoved x = twoApart();
        x.seek(1, 2);
        best(x, 2, 1, 2, 0);
        x.seek(1, 0);
        best(x, 0, -1, -1, 18);
        Due.is("a refused one", x.seek(1, 3), -1);
        Due.is("a refused one", x.seek(-1, 2), -1);
        best(x, 0, -1, -1, 18);
        x.seek(1, 1);
        Due.is("a story that is told is not the one found", x.toll(1, 2, 0), 0);
        Due.is("nor is one of one heap", x.toll(1, -1, 1000), 1011);
        Due.is("heaps", x.count(2), 12);
        best(x, 1, 2, -1, 7);
        x.strike(0, 1);
        x.right(1, 99, 9);
        x.expect(9999);
        x.row(100, 99, 9, 0, 0);
        best(x, 1, 2, -1, 7);
    }

    private static void storyEnds() {
        Due.of("0 how many HEAPS, 1 the first, 2 the second (-1: none), 3 REST. -1000000: another what");
        Call story = Call.of("story", 0);
        SumMoved x = twoApart();
        x.seek(0, 2);
        best(x, 2, 1, 2, 0);
        x.seek(0, 1);
        best(x, 1, 2, -1, 7);
        x.seek(0, 0);
        best(x, 0, -1, -1, 18);
        Desk.ends(EdgesOfStoriesTest::foundTwo, story, 0, BAD, 0, 2, 3, 0);
        SumMoved y = rows(of(-1, 0, 0, 0));
        y.seek(1000, 2);
        Due.is("a rest of -1 is no refusal", y.story(3), -1);
    }

    private static SumMoved foundTwo() {
        SumMoved x = twoApart();
        x.seek(1, 2);
        return x;
    }

    private static void beforeAny() {
        Due.of("-1000000: .. or before any");
        SumMoved x = twoApart();
        for (int what = -1; what < 5; what++) {
            Due.is("story(" + what + ")", x.story(what), BAD);
        }
        x.seek(0, 3);
        x.seek(1001, 0);
        x.toll(1, 2, 0);
        x.count(2);
        for (int what = -1; what < 5; what++) {
            Due.is("story(" + what + ") after refused ones", x.story(what), BAD);
        }
        x.seek(0, 0);
        Due.is("after one", x.story(0), 0);
        Due.is("of another object", new SumMoved().story(0), BAD);
    }

    private static void tollEnds() {
        Due.of("toll: by a cost c; NONE: a HEAP is none such");
        Call toll = Call.of("toll", 1, 2, 0);
        Desk.ends(() -> twoApart(), toll, 2, -1, 0, 0, 1000, 2000);
        Desk.ends(() -> twoApart(), toll.but(1, -1), 2, -1, 0, 11, 1000, 1011);
        int[] wrong = {729, 730, 738, 810, -2, -3, Integer.MIN_VALUE, Integer.MAX_VALUE};
        for (int heap : wrong) {
            Desk.ask(() -> twoApart(), toll.but(0, heap), -1);
            Desk.ask(() -> twoApart(), toll.but(0, heap).but(1, -1), -1);
            Desk.ask(() -> twoApart(), toll.but(1, heap), -1);
        }
        // The least heap is 1; the greatest of two tests is 720, of one test 648.
        SumMoved x = rows(of(4, 0, 0, 0), of(3, 7, 7, 7));
        Due.is("1", x.toll(1, -1, 1), 4);
        Due.is("648", x.toll(648, -1, 1), 5);
        Due.is("720", x.toll(720, -1, 1), 6);
        Due.is("1 and 720", x.toll(1, 720, 1), 3);
        Due.is("720 and 1", x.toll(720, 1, 1), 3);
    }

    private static void tollOfOneAlone() {
        Due.of("HEAPS a, b (-1: none; a alone if b is)");
        SumMoved x = twoApart();
        Due.is("a alone", x.toll(1, -1, 5), 16);
        Due.is("the other alone", x.toll(2, -1, 5), 12);
        Due.is("no a", x.toll(-1, 1, 5), -1);
        Due.is("neither", x.toll(-1, -1, 5), -1);
        Due.is("neither, without rows", new SumMoved().toll(-1, -1, 0), -1);
    }

    private static void tollTests() {
        Due.of("NONE: .. has not 1 or 2 TESTS");
        SumMoved x = twoApart();
        int[] wrong = {0, heap(1, 1, 1), heap(2, 2, 2)};
        for (int heap : wrong) {
            Due.is("alone", x.toll(heap, -1, 0), -1);
            Due.is("as a", x.toll(heap, 1, 0), -1);
            Due.is("as b", x.toll(1, heap, 0), -1);
        }
        for (int heap : new int[] {heap(1, 0, 0), heap(0, 1, 0), heap(0, 0, 1)}) {
            Due.is("of one test", x.toll(heap, -1, 1), 12);
        }
        for (int heap : new int[] {heap(1, 1, 0), heap(1, 0, 1), heap(0, 1, 1)}) {
            Due.is("of two tests", x.toll(heap, -1, 1), 13);
        }
    }

    private static void tollNoRow() {
        Due.of("NONE: .. no ROW");
        SumMoved x = twoApart();
        for (int heap : new int[] {3, 27, heap(1, 2, 0), heap(0, 2, 1), 720}) {
            Due.is("alone", x.toll(heap, -1, 0), -1);
            Due.is("as a", x.toll(heap, 1, 0), -1);
            Due.is("as b", x.toll(1, heap, 0), -1);
        }
        x.strike(1, 1);
        Due.is("its one row is struck", x.toll(2, -1, 0), -1);
        x.strike(1, 0);
        Due.is("its one row is put back", x.toll(2, -1, 0), 7);
        Due.is("no rows at all", new SumMoved().toll(1, -1, 0), -1);
    }

    private static void tollState() {
        Due.of("STATE: one ROW is in both, or they are one");
        SumMoved x = twoApart();
        Due.is("they are one", x.toll(1, 1, 0), -3);
        Due.is("they are one of two tests", x.toll(heap(1, 1, 0), heap(1, 1, 0), 0), -3);
        Due.is("one row in both", x.toll(heap(1, 0, 0), heap(0, 1, 0), 0), -3);
        Due.is("one row in both, the other way", x.toll(heap(0, 1, 0), heap(1, 0, 0), 0), -3);
        Due.is("one holds the other", x.toll(heap(1, 0, 0), heap(1, 1, 0), 0), -3);
        Due.is("no row in both, though one could be", x.toll(heap(1, 0, 0), heap(0, 2, 0), 0), 0);
        SumMoved y = new SumMoved();
        y.row(0, 5, 0, 0, 0);
        y.row(100, 5, 0, 0, Desk.marks(0, 1, 1));
        y.row(0, 5, 0, 0, Desk.marks(1, 1, 0));
        Due.is("a row of month 0", y.toll(heap(1, 0, 0), heap(0, 1, 0), 0), -3);
        Due.is("a row of month 1", y.toll(heap(1, 0, 0), heap(0, 2, 0), 0), -3);
        Due.is("rows of two months", y.toll(heap(0, 1, 0), heap(1, 2, 0), 0), 5);
    }

    private static void noneAheadOfState() {
        Due.of("Answers, the first that a call names: NONE, then STATE");
        SumMoved x = twoApart();
        int[][] told = {{1, 1, 1001}, {1, 1, -1}, {1, 9, 1001}, {3, 3, 0}, {0, 0, 0}, {91, 91, 0}, {1, 91, 0},
            {0, 1, 0}, {729, 729, 0}, {-2, -2, 0}};
        for (int[] t : told) {
            Due.is("toll(" + t[0] + ", " + t[1] + ", " + t[2] + ")", x.toll(t[0], t[1], t[2]), -1);
        }
        Due.is("STATE", x.toll(1, 1, 1000), -3);
    }

    /** Tops of month 1 on days: a pair for each row. */
    private static SumMoved days(int... topsAndDays) {
        SumMoved x = new SumMoved();
        for (int i = 0; i < topsAndDays.length; i += 2) {
            x.row(100 + topsAndDays[i + 1], topsAndDays[i], 0, 0, 0);
        }
        return x;
    }

    private static void firstLeastDay() {
        Due.of("the least DAY d such that SUM of its ROWS of MONTH 1 up to d, less that of MONTH 0 up to d");
        Due.is("day 0", days(5, 0).first(0, 4), 0);
        Due.is("day 30", days(5, 30).first(0, 4), 30);
        Due.is("up to d, the rows of d too", days(5, 7, 5, 8, 5, 9).first(0, 9), 8);
        Due.is("rows in another order of days", days(5, 9, 5, 7, 5, 8).first(0, 9), 8);
        Due.is("it may fall back later", days(10, 3, -10, 4).first(0, 9), 3);
        Due.is("what comes on one day comes together", days(10, 3, -10, 3, 11, 20).first(0, 9), 20);
        SumMoved x = new SumMoved();
        x.row(4, 10, 0, 0, 0);
        x.row(104, 10, 0, 0, 0);
        Due.is("both months of one day", x.first(0, 0), 31);
        x.row(105, 1, 0, 0, 0);
        Due.is("the day after", x.first(0, 0), 5);
        x.row(3, 1, 0, 0, 8);
        Due.is("of month 0", x.first(0, 0), 3);
        Due.is("of a heap without it", x.first(9, 0), 5);
    }

    private static void firstMoreThanTheBound() {
        Due.of("is more than the bound without its sign");
        Due.is("just the bound", days(50, 9).first(0, 50), 31);
        Due.is("one more", days(51, 9).first(0, 50), 9);
        Due.is("just the bound under 0", days(-50, 9).first(0, 50), 31);
        Due.is("one more under 0", days(-51, 9).first(0, 50), 9);
        Due.is("0 is not more than 0", days(0, 9).first(0, 0), 31);
        Due.is("1 is", days(1, 9).first(0, 0), 9);
        Due.is("-1 is", days(-1, 9).first(0, 0), 9);
    }

    private static void firstEnds() {
        Due.of("FIRST DAY of a HEAP by a bound (0 .. 9999). NONE");
        Call first = Call.of("first", 0, 0);
        Desk.ends(Desk::five, first, 0, -1, 0, 0, 728, 15);
        Desk.ends(Desk::five, first, 1, -1, 0, 0, 9999, 31);
        Desk.ends(() -> of120(130, 99), first, 1, -1, 0, 30, 9999, 30);
        Desk.ends(() -> of120(0, 99), first, 1, -1, 0, 0, 9999, 0);
        Desk.ends(SumMoved::new, first, 1, -1, 0, 31, 9999, 31);
        SumMoved x = new SumMoved();
        for (int i = 0; i < 101; i++) {
            x.row(100, 99, 0, 0, 0);
        }
        Due.is("101 rows are 9999: not more than the bound", x.first(0, 9999), 31);
        x.row(130, 1, 0, 0, 0);
        Due.is("one more is", x.first(0, 9999), 30);
    }

    private static void firstNone() {
        Due.of("the DAY; 31: none");
        Due.is("no rows", new SumMoved().first(0, 0), 31);
        Due.is("no rows in the heap", days(99, 0).first(2, 0), 31);
        Due.is("never more", days(9, 0, 9, 30).first(0, 18), 31);
        Due.is("on the last day", days(9, 0, 9, 30).first(0, 17), 30);
        SumMoved x = days(99, 0);
        x.strike(0, 1);
        Due.is("the row is struck", x.first(0, 0), 31);
    }

    private static void countEnds() {
        Due.of("How many: 0 ROWS, 1 STRUCK ones, 2 HEAPS .. NONE");
        Desk.ends(SumMoved::new, Call.of("count", 0), 0, -1, 0, 0, 2, 0);
        // Of one test 2, 2, 2; of two 3, 2, 3.
        Desk.ends(Desk::five, Call.of("count", 0), 0, -1, 0, 5, 2, 14);
        SumMoved x = new SumMoved();
        for (int i = 0; i < 120; i++) {
            x.row(0, 0, 0, 0, 0);
            x.strike(i, 1);
            Due.is("rows", x.count(0), i + 1);
        }
        Due.is("all struck", x.count(1), 120);
        Due.is("no heaps", x.count(2), 0);
        x.strike(119, 0);
        Due.is("one put back", x.count(1), 119);
        Due.is("its heaps", x.count(2), 6);
    }

    private static void countHeaps() {
        Due.of("HEAPS with one or two TESTS that have a ROW");
        SumMoved x = new SumMoved();
        Due.is("no rows", x.count(2), 0);
        x.row(0, 0, 0, 0, 0);
        Due.is("one row of month 0", x.count(2), 6);
        x.row(100, 0, 0, 0, 0);
        Due.is("a like one of month 1", x.count(2), 6);
        x.row(100, 0, 0, 0, 511);
        Due.is("one of no like value", x.count(2), 12);
        SumMoved y = new SumMoved();
        for (int i = 0; i < 64; i++) {
            y.row(0, 0, 0, 0, Desk.marks(i % 8, i / 8, (i + i / 8) % 8));
        }
        Due.is("all there are", y.count(2), 3 * 8 + 3 * 64);
        y.strike(63, 1);
        Due.is("three heaps of two tests less", y.count(2), 213);
    }
}
