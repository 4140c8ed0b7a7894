/** A desk for why a number is not what it was; README.md tells how to use it. */
public final class SumMoved {
    public static final int NONE = -1, FULL = -2, STATE = -3;
    public static final long NO = -4000000000000000000L;

    private static final int NO_FIELD = -1000, NO_NUMBER = -1000000;
    private static final int MOST_ROWS = 120, MONTHS = 2, DAYS = 31, MEMBERS = 64;
    private static final int MARKS = 3, VALUES = 8, HEAPS = 729, MEASURES = 4;
    private static final int SUM = 0, BASES = 2, DISTINCT = 3;
    private static final int CAME = 0, LEFT = 1, STAYED = 2, MOVED = 3, ABSENT = 4;
    private static final int ALL_ROWS = 0;

    private final Rows rows;
    private final Switches switches;
    private final Stories stories;

    public SumMoved() {
        rows = new Rows();
        switches = new Switches();
        stories = new Stories(rows);
    }

    // ---- rows

    public int row(int when, int top, int base, int member, int marks) {
        boolean known = when >= 0 && isIn(when / 100, 0, MONTHS - 1) && isIn(when % 100, 0, DAYS - 1);
        if (!known || !isTop(top) || !isBase(base) || !isMember(member) || !isIn(marks, 0, 511)) {
            return NONE;
        }
        if (rows.isFull()) {
            return FULL;
        }
        return rows.add(when, top, base, member, marks);
    }

    public int right(int row, int top, int base) {
        if (!rows.has(row) || !isTop(top) || !isBase(base)) {
            return NONE;
        }
        rows.putRight(row, top, base);
        return 1;
    }

    public int strike(int row, int is) {
        if (!rows.has(row) || !isIn(is, 0, 1)) {
            return NONE;
        }
        return rows.setStruck(row, is);
    }

    public int about(int row, int what) {
        return rows.has(row) ? rows.field(row, what) : NO_FIELD;
    }

    // ---- measures

    public int sum(int heap, int month, int measure) {
        boolean known = Heaps.has(heap) && isIn(month, 0, MONTHS - 1) && isIn(measure, 0, MEASURES - 1);
        return known ? rows.total(heap, month, measure) : NO_NUMBER;
    }

    public int change(int heap, int measure) {
        boolean known = Heaps.has(heap) && isIn(measure, 0, MEASURES - 1);
        return known ? rows.moved(heap, measure) : NO_NUMBER;
    }

    public int rate(int heap, int month, int what) {
        if (!Heaps.has(heap) || !isIn(month, 0, MONTHS - 1) || !isIn(what, 0, 1)) {
            return NO_NUMBER;
        }
        int bases = rows.total(heap, month, BASES);
        return bases == 0 ? 0 : (int) Fractions.tell(rows.total(heap, month, SUM), bases, what);
    }

    public long shift(int heap, int what) {
        if (!Heaps.has(heap) || !isIn(what, 0, 1) || !rows.hasRates(heap)) {
            return NO;
        }
        return Fractions.difference(rows, heap, heap, what);
    }

    // ---- partings

    public long part(int heap, int mark, int value, int kind, int what) {
        if (!Heaps.isOpen(heap, mark) || !isIn(value, 0, VALUES - 1)) {
            return NO;
        }
        if (!isIn(kind, 0, 1) || !isIn(what, 0, 1) || !rows.hasRates(heap)) {
            return NO;
        }
        int piece = Heaps.withTest(heap, mark, value);
        if (rows.hasRates(piece)) {
            return Fractions.parted(rows, heap, piece, kind, what);
        }
        return kind == 0 ? Fractions.tell(0, 1, what) : Fractions.difference(rows, piece, heap, what);
    }

    public int moves(int mark, int how) {
        if (!isIn(mark, 0, MARKS - 1) || !isIn(how, CAME, MOVED)) {
            return NONE;
        }
        int many = 0;
        for (int member = 0; member < MEMBERS; member++) {
            if (rows.wayOf(mark, member) == how) {
                many++;
            }
        }
        return many;
    }

    public int move(int mark, int member) {
        return isIn(mark, 0, MARKS - 1) && isMember(member) ? rows.wayOf(mark, member) : NONE;
    }

    public int rounded(int heap, int mark, int value, int unit) {
        if (!Heaps.isOpen(heap, mark) || !isIn(value, 0, VALUES) || !isIn(unit, 1, 1000)) {
            return NO_NUMBER;
        }
        return rows.inUnits(heap, mark, value, unit);
    }

    // ---- switches

    public int factor(int i, int before, int after) {
        if (!Switches.has(i) || !isIn(before, -99, 99) || !isIn(after, -99, 99)) {
            return NONE;
        }
        switches.set(i, before, after);
        return 1;
    }

    public int outcome(int set) {
        return isIn(set, 0, Switches.ALL) ? switches.result(set) : NO_NUMBER;
    }

    public int share(int i, int what) {
        if (!Switches.has(i) || !isIn(what, 0, 1)) {
            return NO_NUMBER;
        }
        return (int) Fractions.tell(switches.overAllOrders(i), Switches.ORDERS, what);
    }

    // ---- stories

    public int expect(int v) {
        return isIn(v, -9999, 9999) ? stories.setExpected(v) : NO_NUMBER;
    }

    public int seek(int c, int n) {
        return isCost(c) && isIn(n, 0, 2) ? stories.findBest(c, n) : NONE;
    }

    public int story(int what) {
        return stories.ofBest(what);
    }

    public int toll(int a, int b, int c) {
        boolean alone = b == -1;
        if (!isCost(c) || !stories.mayTell(a) || !alone && !stories.mayTell(b)) {
            return NONE;
        }
        if (alone) {
            return stories.tollOf(rows.moved(a, SUM), c * Heaps.tests(a));
        }
        // A HEAP that may tell has a ROW, so one that is told twice meets itself.
        if (rows.meet(a, b)) {
            return STATE;
        }
        return stories.tollOf(rows.moved(a, SUM) + rows.moved(b, SUM), c * (Heaps.tests(a) + Heaps.tests(b)));
    }

    public int first(int heap, int bound) {
        return Heaps.has(heap) && isIn(bound, 0, 9999) ? rows.firstDay(heap, bound) : NONE;
    }

    public int count(int what) {
        switch (what) {
            case 0:
                return rows.size();
            case 1:
                return rows.struckOnes();
            case 2:
                return stories.gather();
            default:
                return NONE;
        }
    }

    private static boolean isIn(int number, int least, int most) {
        return number >= least && number <= most;
    }

    private static boolean isTop(int number) {
        return isIn(number, -99, 99);
    }

    private static boolean isBase(int number) {
        return isIn(number, 0, 9);
    }

    private static boolean isMember(int number) {
        return isIn(number, 0, MEMBERS - 1);
    }

    private static boolean isCost(int number) {
        return isIn(number, 0, 1000);
    }

    /** What a HEAP's number says: for each MARK a digit of base 9. */
    private static final class Heaps {
        private static final int[] PLACES = {1, 9, 81};

        static boolean has(int heap) {
            return isIn(heap, 0, HEAPS - 1);
        }

        private static int digit(int heap, int mark) {
            return mark == 0 ? heap % 9 : mark == 1 ? heap / 9 % 9 : heap / 81;
        }

        /** Whether both are as said and the HEAP has no TEST on the MARK. */
        static boolean isOpen(int heap, int mark) {
            return has(heap) && isIn(mark, 0, MARKS - 1) && digit(heap, mark) == 0;
        }

        static int withTest(int heap, int mark, int value) {
            return isOpen(heap, mark) ? heap + (value + 1) * PLACES[mark] : heap;
        }

        static int tests(int heap) {
            int many = 0;
            for (int mark = 0; mark < MARKS; mark++) {
                if (digit(heap, mark) != 0) {
                    many++;
                }
            }
            return many;
        }

        /** The bits of a row's marks that the TESTS look at. */
        static int testedBits(int heap) {
            int bits = 0;
            for (int mark = 0; mark < MARKS; mark++) {
                if (digit(heap, mark) != 0) {
                    bits |= 7 << 3 * mark;
                }
            }
            return bits;
        }

        /** What those bits are in a row of the HEAP. */
        static int wantedBits(int heap) {
            int bits = 0;
            for (int mark = 0; mark < MARKS; mark++) {
                if (digit(heap, mark) != 0) {
                    bits |= digit(heap, mark) - 1 << 3 * mark;
                }
            }
            return bits;
        }
    }

    /** The ROWS, and all that is counted from them. */
    private static final class Rows {
        private final int[] month, day, tops, bases, members, marks, struck;
        private int size;

        Rows() {
            month = new int[MOST_ROWS];
            day = new int[MOST_ROWS];
            tops = new int[MOST_ROWS];
            bases = new int[MOST_ROWS];
            members = new int[MOST_ROWS];
            marks = new int[MOST_ROWS];
            struck = new int[MOST_ROWS];
            size = 0;
        }

        int size() {
            return size;
        }

        boolean isFull() {
            return size >= MOST_ROWS;
        }

        boolean has(int row) {
            return row >= 0 && row < size;
        }

        int add(int when, int top, int base, int member, int markDigits) {
            if (isFull()) {
                return FULL;
            }
            month[size] = when / 100;
            day[size] = when % 100;
            tops[size] = top;
            bases[size] = base;
            members[size] = member;
            marks[size] = markDigits;
            size++;
            return size - 1;
        }

        void putRight(int row, int top, int base) {
            if (has(row)) {
                tops[row] = top;
                bases[row] = base;
            }
        }

        int setStruck(int row, int is) {
            if (!has(row)) {
                return NONE;
            }
            int was = struck[row];
            struck[row] = is;
            return was;
        }

        int field(int row, int what) {
            if (!has(row)) {
                return NO_FIELD;
            }
            switch (what) {
                case 0:
                    return month[row];
                case 1:
                    return day[row];
                case 2:
                    return tops[row];
                case 3:
                    return bases[row];
                case 4:
                    return members[row];
                case 5:
                case 6:
                case 7:
                    return valueOf(row, what - 5);
                case 8:
                    return struck[row];
                default:
                    return NO_FIELD;
            }
        }

        int struckOnes() {
            int many = 0;
            for (int r = 0; r < size; r++) {
                many += struck[r];
            }
            return many;
        }

        private int valueOf(int row, int mark) {
            return marks[row] >> 3 * mark & 7;
        }

        private boolean fits(int row, int tested, int wanted) {
            return struck[row] == 0 && (marks[row] & tested) == wanted;
        }

        int total(int heap, int inMonth, int measure) {
            int tested = Heaps.testedBits(heap), wanted = Heaps.wantedBits(heap);
            int total = 0;
            long seen = 0;
            for (int r = 0; r < size; r++) {
                if (month[r] == inMonth && fits(r, tested, wanted)) {
                    total += measure == SUM ? tops[r] : measure == BASES ? bases[r] : 1;
                    seen |= 1L << members[r];
                }
            }
            return measure == DISTINCT ? Long.bitCount(seen) : total;
        }

        int moved(int heap, int measure) {
            return total(heap, 1, measure) - total(heap, 0, measure);
        }

        boolean hasRates(int heap) {
            return total(heap, 0, BASES) > 0 && total(heap, 1, BASES) > 0;
        }

        /** The ROWS of a HEAP as bits: of 0 .. 63, or (half 1) of 64 and more; one long is too short for all. */
        long bitsOf(int heap, int half) {
            int tested = Heaps.testedBits(heap), wanted = Heaps.wantedBits(heap);
            int from = half == 0 ? 0 : 64, to = half == 0 ? Math.min(size, 64) : size;
            long bits = 0;
            for (int r = from; r < to; r++) {
                if (fits(r, tested, wanted)) {
                    bits |= 1L << r - from;
                }
            }
            return bits;
        }

        boolean meet(int a, int b) {
            return (bitsOf(a, 0) & bitsOf(b, 0)) != 0 || (bitsOf(a, 1) & bitsOf(b, 1)) != 0;
        }

        /** How a MEMBER went from MONTH 0 to MONTH 1 by a MARK. */
        int wayOf(int mark, int member) {
            int before = valuesOf(mark, member, 0), after = valuesOf(mark, member, 1);
            if (before == 0) {
                return after == 0 ? ABSENT : CAME;
            }
            if (after == 0) {
                return LEFT;
            }
            return before == after ? STAYED : MOVED;
        }

        private int valuesOf(int mark, int member, int inMonth) {
            int values = 0;
            for (int r = 0; r < size; r++) {
                if (struck[r] == 0 && members[r] == member && month[r] == inMonth) {
                    values |= 1 << valueOf(r, mark);
                }
            }
            return values;
        }

        int inUnits(int heap, int mark, int value, int unit) {
            if (unit < 1) {
                return NO_NUMBER;
            }
            int whole = Math.floorDiv(moved(heap, SUM), unit);
            if (value == VALUES) {
                return whole;
            }
            int asked = moved(Heaps.withTest(heap, mark, value), SUM);
            int remainder = Math.floorMod(asked, unit);
            int toGive = whole, ahead = 0;
            for (int v = 0; v < VALUES; v++) {
                int piece = moved(Heaps.withTest(heap, mark, v), SUM);
                int other = Math.floorMod(piece, unit);
                toGive -= Math.floorDiv(piece, unit);
                if (other > remainder || other == remainder && v < value) {
                    ahead++;
                }
            }
            return Math.floorDiv(asked, unit) + (ahead < toGive ? 1 : 0);
        }

        int firstDay(int heap, int bound) {
            for (int d = 0; d < DAYS; d++) {
                if (Math.abs(movedUpTo(heap, d)) > bound) {
                    return d;
                }
            }
            return DAYS;
        }

        private int movedUpTo(int heap, int lastDay) {
            int tested = Heaps.testedBits(heap), wanted = Heaps.wantedBits(heap);
            int total = 0;
            for (int r = 0; r < size; r++) {
                if (day[r] <= lastDay && fits(r, tested, wanted)) {
                    total += month[r] == 1 ? tops[r] : -tops[r];
                }
            }
            return total;
        }
    }

    /** Fractions in whole numbers: 120 ROWS keep all of these products far inside a long. */
    private static final class Fractions {
        /** More steps than Euclid needs for any two longs. */
        private static final int MOST_STEPS = 200;

        /** The upper (what 0) or lower number of upper / lower in lowest terms; lower is above 0. */
        static long tell(long upper, long lower, int what) {
            long divisor = commonDivisor(Math.abs(upper), lower);
            if (divisor < 1) {
                return NO;
            }
            return (what == 0 ? upper : lower) / divisor;
        }

        private static long commonDivisor(long a, long b) {
            long greater = a, lesser = b;
            for (int step = 0; step < MOST_STEPS && lesser != 0; step++) {
                long remainder = greater % lesser;
                greater = lesser;
                lesser = remainder;
            }
            return greater;
        }

        /** SUM of a piece by BASES of the whole, MONTH 1's less MONTH 0's. */
        static long difference(Rows rows, int piece, int whole, int what) {
            long a0 = rows.total(piece, 0, SUM), a1 = rows.total(piece, 1, SUM);
            long all0 = rows.total(whole, 0, BASES), all1 = rows.total(whole, 1, BASES);
            return tell(a1 * all0 - a0 * all1, all0 * all1, what);
        }

        /** RATE part (kind 0) or MIX part of a piece with BASES in both MONTHS, over one lower number. */
        static long parted(Rows rows, int whole, int piece, int kind, int what) {
            long a0 = rows.total(piece, 0, SUM), a1 = rows.total(piece, 1, SUM);
            long b0 = rows.total(piece, 0, BASES), b1 = rows.total(piece, 1, BASES);
            long all0 = rows.total(whole, 0, BASES), all1 = rows.total(whole, 1, BASES);
            long lower = 2 * b0 * b1 * all0 * all1;
            long upper = kind == 0
                    ? (a1 * b0 - a0 * b1) * (b0 * all1 + b1 * all0)
                    : (b1 * all0 - b0 * all1) * (a0 * b1 + a1 * b0);
            return tell(upper, lower, what);
        }
    }

    /** The FACTORS and what they come to. */
    private static final class Switches {
        static final int FACTORS = 5, ALL = 31, ORDERS = 120;

        /** For k FACTORS ahead of one: in how many orders just those k are ahead of it, k! (4 - k)!. */
        private static final int[] ORDERS_WITH = {24, 6, 4, 6, 24};

        private final int[] before, after;

        Switches() {
            before = new int[FACTORS];
            after = new int[FACTORS];
        }

        static boolean has(int i) {
            return isIn(i, 0, FACTORS - 1);
        }

        void set(int i, int numberBefore, int numberAfter) {
            if (has(i)) {
                before[i] = numberBefore;
                after[i] = numberAfter;
            }
        }

        int result(int set) {
            return number(0, set) * number(1, set) + number(2, set) * number(3, set) + number(4, set);
        }

        private int number(int i, int set) {
            return (set >> i & 1) == 1 ? after[i] : before[i];
        }

        /** The sum, over all orders, of what switching the FACTOR does: PART times ORDERS. */
        int overAllOrders(int i) {
            if (!has(i)) {
                return 0;
            }
            int own = 1 << i, total = 0;
            for (int ahead = 0; ahead <= ALL; ahead++) {
                if ((ahead & own) == 0) {
                    total += ORDERS_WITH[Integer.bitCount(ahead)] * (result(ahead | own) - result(ahead));
                }
            }
            return total;
        }
    }

    /** EXPECTED, the BEST STORY, and the HEAPS that a STORY may be made of. */
    private static final class Stories {
        /** 24 HEAPS of one TEST and 192 of two. */
        private static final int MOST_HEAPS = 216;

        private final Rows rows;
        private final int[] heaps, changes, tests;
        private final long[] lowBits, highBits;
        private int size;
        private int expected;
        private boolean found;
        private int bestMany, bestFirst, bestSecond, bestRest, bestToll;

        Stories(Rows of) {
            rows = of;
            heaps = new int[MOST_HEAPS];
            changes = new int[MOST_HEAPS];
            tests = new int[MOST_HEAPS];
            lowBits = new long[MOST_HEAPS];
            highBits = new long[MOST_HEAPS];
            size = 0;
            expected = 0;
            found = false;
        }

        int setExpected(int v) {
            int was = expected;
            expected = v;
            return was;
        }

        boolean mayTell(int heap) {
            return Heaps.has(heap) && isIn(Heaps.tests(heap), 1, 2)
                    && (rows.bitsOf(heap, 0) != 0 || rows.bitsOf(heap, 1) != 0);
        }

        /** Lists the HEAPS that a STORY may hold, the lesser first, and says how many there are. */
        int gather() {
            size = 0;
            for (int heap = 1; heap < HEAPS && size < MOST_HEAPS; heap++) {
                if (Heaps.tests(heap) > 2) {
                    continue;
                }
                long low = rows.bitsOf(heap, 0), high = rows.bitsOf(heap, 1);
                if (low != 0 || high != 0) {
                    heaps[size] = heap;
                    changes[size] = rows.moved(heap, SUM);
                    tests[size] = Heaps.tests(heap);
                    lowBits[size] = low;
                    highBits[size] = high;
                    size++;
                }
            }
            return size;
        }

        private int left() {
            return rows.moved(ALL_ROWS, SUM) - expected;
        }

        int tollOf(int told, int price) {
            return Math.abs(left() - told) + price;
        }

        /** Offers come in the order that likes are to stand in, so only a lesser TOLL takes the place. */
        int findBest(int cost, int most) {
            int left = left();
            gather();
            keep(0, -1, -1, left, Math.abs(left));
            if (most >= 1) {
                offerOnes(cost, left);
            }
            if (most >= 2) {
                offerTwos(cost, left);
            }
            found = true;
            return bestToll;
        }

        private void offerOnes(int cost, int left) {
            for (int i = 0; i < size; i++) {
                int rest = left - changes[i];
                int toll = Math.abs(rest) + cost * tests[i];
                if (toll < bestToll) {
                    keep(1, heaps[i], -1, rest, toll);
                }
            }
        }

        private void offerTwos(int cost, int left) {
            for (int i = 0; i < size; i++) {
                for (int j = i + 1; j < size; j++) {
                    int rest = left - changes[i] - changes[j];
                    int toll = Math.abs(rest) + cost * (tests[i] + tests[j]);
                    if (toll < bestToll && areApart(i, j)) {
                        keep(2, heaps[i], heaps[j], rest, toll);
                    }
                }
            }
        }

        private boolean areApart(int i, int j) {
            return (lowBits[i] & lowBits[j]) == 0 && (highBits[i] & highBits[j]) == 0;
        }

        private void keep(int many, int firstHeap, int secondHeap, int rest, int toll) {
            bestMany = many;
            bestFirst = firstHeap;
            bestSecond = secondHeap;
            bestRest = rest;
            bestToll = toll;
        }

        int ofBest(int what) {
            if (!found) {
                return NO_NUMBER;
            }
            switch (what) {
                case 0:
                    return bestMany;
                case 1:
                    return bestFirst;
                case 2:
                    return bestSecond;
                case 3:
                    return bestRest;
                default:
                    return NO_NUMBER;
            }
        }
    }
}
