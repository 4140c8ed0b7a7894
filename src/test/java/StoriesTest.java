/** Promises 17 to 22: expect, seek, story, toll, first, count. */
public final class StoriesTest {
    private static final int BAD = -1000000;
    private static final int[] FAR = {Integer.MIN_VALUE, -1, Integer.MAX_VALUE};

    public static void main(String[] args) {
        expect();
        seekAndStory();
        seekTies();
        seekApart();
        storyStays();
        toll();
        tollRefused();
        first();
        counts();
        full();
        Due.end();
    }

    private static int marks(int mark0, int mark1, int mark2) {
        return mark0 + 8 * mark1 + 64 * mark2;
    }

    private static int heap(int digit0, int digit1, int digit2) {
        return digit0 + 9 * digit1 + 81 * digit2;
    }

    private static void best(String when, SumMoved x, int... want) {
        for (int what = 0; what < 4; what++) {
            Due.is(when + ": story(" + what + ")", x.story(what), want[what]);
        }
    }

    private static void expect() {
        SumMoved x = new SumMoved();
        Due.is("at first", x.expect(-9999), 0);
        Due.is("the least", x.expect(9999), -9999);
        Due.is("10000", x.expect(10000), BAD);
        Due.is("-10000", x.expect(-10000), BAD);
        Due.is("far", x.expect(Integer.MAX_VALUE), BAD);
        Due.is("far", x.expect(Integer.MIN_VALUE), BAD);
        Due.is("toll with the greatest", x.seek(0, 2), 9999);
        Due.is("rest with the greatest", x.story(3), -9999);
        Due.is("the greatest", x.expect(0), 9999);
        Due.is("rest stays as found", x.story(3), -9999);
    }

    private static SumMoved fourRows() {
        SumMoved x = new SumMoved();
        x.row(101, 50, 0, 0, marks(0, 0, 0));
        x.row(101, 30, 0, 0, marks(1, 1, 0));
        x.row(1, 7, 0, 0, marks(2, 1, 1));
        x.row(1, 20, 0, 0, marks(3, 2, 7));
        return x;
    }

    private static void seekAndStory() {
        SumMoved x = fourRows();
        Due.is("before any", x.story(0), BAD);
        // 53 is left: MARK 0 parts it into 50, 30, -7, -20.
        Due.is("no heaps", x.seek(1, 0), 53);
        best("no heaps", x, 0, -1, -1, 53);
        Due.is("one", x.seek(1, 1), 4);
        best("one", x, 1, heap(1, 0, 0), -1, 3);
        // MARK 2's value 0 is 80, its value 7 -20: 60; 50 alone leaves 3; 80 and -20 leave -7; 80 and -7 leave -20.
        Due.is("two at price 0", x.seek(0, 2), 3);
        best("two at price 0", x, 1, heap(1, 0, 0), -1, 3);
        x.expect(-20);
        // 73 is left: 80 and -7 (MARK 0's value 2, MARK 2's value 0), or 50 and 23 with the lesser first heap.
        Due.is("two of one test", x.seek(3, 2), 6);
        best("two of one test", x, 2, heap(1, 0, 0), heap(0, 2, 0), 0);
        Due.is("80 and -7", x.toll(heap(3, 0, 0), heap(0, 0, 1), 3), 6);
        Due.is("dear", x.seek(30, 2), 37);
        best("dear", x, 1, heap(0, 0, 1), -1, -7);
        Due.is("dearest", x.seek(1000, 2), 73);
        best("dearest", x, 0, -1, -1, 73);
        Due.is("story(-1)", x.story(-1), BAD);
        Due.is("story(4)", x.story(4), BAD);
        Due.is("story, far", x.story(Integer.MIN_VALUE), BAD);
        Due.is("story, far", x.story(Integer.MAX_VALUE), BAD);
        for (int far : FAR) {
            Due.is("seek, c " + far, x.seek(far, 0), -1);
            Due.is("seek, n " + far, x.seek(0, far), -1);
        }
        Due.is("seek, c 1001", x.seek(1001, 0), -1);
        Due.is("seek, n 3", x.seek(0, 3), -1);
        best("after refusals", x, 0, -1, -1, 73);
        SumMoved y = new SumMoved();
        y.seek(-1, 0);
        Due.is("a refused seek is none", y.story(0), BAD);
    }

    private static void seekTies() {
        SumMoved x = new SumMoved();
        x.row(101, 10, 0, 0, marks(4, 4, 4));
        Due.is("a heap at the toll of none", x.seek(10, 2), 10);
        best("none is fewest", x, 0, -1, -1, 10);
        Due.is("one row", x.seek(0, 2), 0);
        best("the least heap", x, 1, heap(5, 0, 0), -1, 0);
        x.row(101, 10, 0, 0, marks(4, 5, 6));
        x.expect(10);
        Due.is("of one test before two", x.seek(1, 1), 1);
        best("of one test", x, 1, heap(0, 5, 0), -1, 0);
        Due.is("at price 0 the lesser number", x.seek(0, 1), 0);
        best("the lesser number", x, 1, heap(0, 5, 0), -1, 0);
        // What is left is over 0 or under it: the same toll, and the first heap is the lesser.
        SumMoved y = new SumMoved();
        y.row(101, 8, 0, 0, marks(1, 0, 0));
        y.row(101, 12, 0, 0, marks(0, 0, 0));
        y.expect(10);
        Due.is("over and under", y.seek(0, 1), 2);
        best("over and under", y, 1, heap(1, 0, 0), -1, -2);
        // The second heap is the lesser one, too: 5 and 6 are value 0 with either of two values.
        SumMoved z = new SumMoved();
        z.row(101, 5, 0, 0, marks(0, 0, 0));
        z.row(101, 6, 0, 0, marks(1, 1, 1));
        z.row(101, 6, 0, 0, marks(2, 2, 2));
        z.row(1, 90, 0, 0, marks(7, 7, 7));
        z.expect(-73 - 11);
        Due.is("two", z.seek(1, 2), 2);
        best("two, the lesser second", z, 2, heap(1, 0, 0), heap(2, 0, 0), 0);
    }

    private static void seekApart() {
        SumMoved x = new SumMoved();
        x.row(101, 10, 0, 0, marks(0, 0, 0));
        x.row(101, 10, 0, 0, marks(1, 1, 0));
        x.row(101, 10, 0, 0, marks(0, 2, 0));
        x.row(1, 99, 0, 0, marks(7, 7, 7));
        // MARK 0's value 0 (20) and MARK 1's value 0 (10) are 30, but share row 0.
        x.expect(-69 - 40);
        Due.is("what can't be told twice", x.seek(0, 2), 10);
        best("what can't be told twice", x, 1, heap(0, 0, 1), -1, 10);
        // They are apart by rows, though another row could be in both: MARK 0's value 1 and MARK 1's value 2.
        Due.is("apart by rows", x.toll(heap(2, 0, 0), heap(0, 3, 0), 0), 20);
        x.strike(0, 1);
        Due.is("a struck row is in none", x.toll(heap(1, 0, 0), heap(0, 1, 0), 0), -1);
    }

    private static void storyStays() {
        SumMoved x = fourRows();
        x.seek(1, 1);
        x.strike(0, 1);
        x.expect(77);
        best("as the latest seek found it", x, 1, heap(1, 0, 0), -1, 3);
        Due.is("found anew", x.seek(1, 0), 74);
        best("found anew", x, 0, -1, -1, -74);
    }

    private static void toll() {
        SumMoved x = fourRows();
        Due.is("one alone", x.toll(heap(1, 0, 0), -1, 5), 8);
        Due.is("one of two tests", x.toll(heap(1, 1, 0), -1, 5), 13);
        Due.is("two", x.toll(heap(1, 0, 0), heap(0, 2, 1), 5), 27 + 15);
        Due.is("two, the greater first", x.toll(heap(0, 2, 1), heap(1, 0, 0), 5), 27 + 15);
        Due.is("at cost 0", x.toll(heap(4, 0, 0), -1, 0), 73);
        Due.is("at cost 1000", x.toll(heap(4, 0, 8), heap(1, 0, 1), 1000), 4023);
        x.expect(53);
        Due.is("with all expected", x.toll(heap(1, 0, 0), -1, 5), 55);
        x.strike(0, 1);
        Due.is("a heap without rows", x.toll(heap(1, 0, 0), -1, 5), -1);
    }

    private static void tollRefused() {
        SumMoved x = fourRows();
        int good = heap(1, 0, 0), other = heap(2, 0, 0);
        Due.is("no heap", x.toll(-1, -1, 0), -1);
        Due.is("b without a", x.toll(-1, good, 0), -1);
        Due.is("no tests", x.toll(0, -1, 0), -1);
        Due.is("no tests, b", x.toll(good, 0, 0), -1);
        Due.is("three tests", x.toll(heap(1, 1, 1), -1, 0), -1);
        Due.is("three tests, b", x.toll(other, heap(1, 1, 1), 0), -1);
        Due.is("no rows", x.toll(heap(5, 0, 0), -1, 0), -1);
        Due.is("no rows, b", x.toll(good, heap(5, 0, 0), 0), -1);
        Due.is("no rows, twice", x.toll(heap(5, 0, 0), heap(5, 0, 0), 0), -1);
        Due.is("729", x.toll(729, -1, 0), -1);
        Due.is("729, b", x.toll(good, 729, 0), -1);
        Due.is("-2, b", x.toll(good, -2, 0), -1);
        for (int far : FAR) {
            Due.is("cost " + far, x.toll(good, -1, far), -1);
            Due.is("heap " + far, x.toll(far, other, 0), -1);
        }
        Due.is("far, b", x.toll(good, Integer.MAX_VALUE, 0), -1);
        Due.is("far, b", x.toll(good, Integer.MIN_VALUE, 0), -1);
        Due.is("cost 1001", x.toll(good, -1, 1001), -1);
        Due.is("they are one", x.toll(good, good, 0), -3);
        Due.is("one row in both", x.toll(good, heap(0, 1, 0), 0), -3);
        Due.is("one row in both, of month 0", x.toll(heap(3, 0, 0), heap(0, 0, 2), 0), -3);
        Due.is("a wrong cost before one row in both", x.toll(good, good, 1001), -1);
        Due.is("two apart", x.toll(good, other, 0), 27);
    }

    private static void first() {
        SumMoved x = new SumMoved();
        Due.is("no rows", x.first(0, 0), 31);
        x.row(105, 10, 0, 0, 0);
        x.row(6, 25, 0, 0, 1);
        x.row(130, 40, 0, 0, 0);
        x.row(105, 2, 0, 0, 1);
        // Day 5: 12; day 6: -13; day 30: 27.
        Due.is("bound 0", x.first(0, 0), 5);
        Due.is("bound 11", x.first(0, 11), 5);
        Due.is("bound 12: under 0 counts without its sign", x.first(0, 12), 6);
        Due.is("bound 13", x.first(0, 13), 30);
        Due.is("bound 26", x.first(0, 26), 30);
        Due.is("bound 27", x.first(0, 27), 31);
        Due.is("bound 9999", x.first(0, 9999), 31);
        Due.is("of heap 1", x.first(1, 10), 30);
        Due.is("of heap 2", x.first(2, 22), 6);
        Due.is("of a heap without rows", x.first(728, 0), 31);
        x.strike(1, 1);
        Due.is("one struck", x.first(0, 12), 30);
        x.row(0, 1, 0, 0, 0);
        Due.is("day 0", x.first(0, 0), 0);
        for (int far : FAR) {
            Due.is("first, heap " + far, x.first(far, 0), -1);
            Due.is("first, bound " + far, x.first(0, far), -1);
        }
        Due.is("first, heap 729", x.first(729, 0), -1);
        Due.is("first, bound 10000", x.first(0, 10000), -1);
    }

    private static void counts() {
        SumMoved x = fourRows();
        Due.is("rows", x.count(0), 4);
        Due.is("struck ones", x.count(1), 0);
        // One test: 4, 3, 3; two: 4, 4, 4.
        Due.is("heaps", x.count(2), 22);
        x.strike(3, 1);
        Due.is("rows, the struck one too", x.count(0), 4);
        Due.is("struck ones", x.count(1), 1);
        Due.is("heaps without it", x.count(2), 16);
        for (int far : FAR) {
            Due.is("count " + far, x.count(far), -1);
        }
        Due.is("count 3", x.count(3), -1);
    }

    /** 120 rows in all 216 heaps: rows 64 and more are told apart from rows 0 .. 55. */
    private static void full() {
        SumMoved x = new SumMoved();
        for (int i = 0; i < 64; i++) {
            x.row(100, 1, 0, 0, marks(i % 8, i / 8, (i + i / 8) % 8));
        }
        Due.is("all heaps", x.count(2), 216);
        for (int i = 0; i < 56; i++) {
            x.row(0, 1, 0, 0, marks(i % 8, i / 8, (i + i / 8) % 8));
        }
        Due.is("heaps of 120", x.count(2), 216);
        Due.is("left of 120", x.seek(1, 2), 1);
        best("120", x, 1, heap(0, 8, 0), -1, 0);
        SumMoved y = new SumMoved();
        for (int i = 0; i < 64; i++) {
            y.row(100, 0, 0, 0, marks(7, 7, 7));
        }
        y.row(100, 10, 0, 0, marks(1, 2, 0));
        y.row(100, 10, 0, 0, marks(3, 4, 0));
        Due.is("a shared row beyond 63", y.toll(heap(2, 0, 0), heap(0, 3, 0), 0), -3);
        Due.is("rows 64 and 65 are two", y.toll(heap(2, 0, 0), heap(0, 5, 0), 0), 0);
        Due.is("rows 0 and 64 are two", y.toll(heap(2, 0, 0), heap(0, 8, 0), 0), 10);
        y.row(100, 9, 0, 0, marks(1, 5, 1));
        y.expect(-10);
        // 39 is left: 19 (MARK 0's value 1) and 20 (MARK 2's value 0) share row 64.
        Due.is("seek with a shared row beyond 63", y.seek(1, 2), 12);
    }
}
