import java.util.Arrays;
import java.util.function.Supplier;

/** Desks to begin with, and what the tests of edges ask of them. */
final class Desk {
    static final int BAD = -1000000;

    private Desk() {
    }

    static int marks(int mark0, int mark1, int mark2) {
        return mark0 + 8 * mark1 + 64 * mark2;
    }

    /** A heap by its digits: 0 no test, v + 1 the value v. */
    static int heap(int digit0, int digit1, int digit2) {
        return digit0 + 9 * digit1 + 81 * digit2;
    }

    /** Five rows at the ends of what a row may be: members 0, 1, 63, values 0 and 7, days 0, 15, 30. */
    static SumMoved five() {
        SumMoved x = new SumMoved();
        x.row(0, 10, 2, 0, marks(0, 0, 0));
        x.row(30, -20, 4, 63, marks(7, 7, 7));
        x.row(100, 30, 5, 0, marks(0, 0, 0));
        x.row(130, 5, 1, 1, marks(7, 0, 7));
        x.row(115, 8, 3, 63, marks(7, 7, 7));
        return x;
    }

    /** The five, one of them struck, with factors, something expected and a story found. */
    static SumMoved busy() {
        SumMoved x = five();
        x.strike(3, 1);
        factors(x);
        x.expect(7);
        x.seek(2, 2);
        return x;
    }

    /** 120 rows, two of them struck, with factors, something expected and a story found. */
    static SumMoved full() {
        SumMoved x = new SumMoved();
        for (int i = 0; i < 120; i++) {
            x.row(i % 2 * 100 + i * 7 % 31, i * 37 % 199 - 99, i % 10, i * 5 % 64, i * 131 % 512);
        }
        x.strike(5, 1);
        x.strike(64, 1);
        factors(x);
        x.expect(-345);
        x.seek(3, 2);
        return x;
    }

    private static void factors(SumMoved x) {
        x.factor(0, 2, -5);
        x.factor(1, 3, 4);
        x.factor(2, -1, 6);
        x.factor(3, 7, 99);
        x.factor(4, 9, 8);
    }

    /** The least and the greatest number at a place answer what is due; the next ones and the farthest are refused. */
    static void ends(Supplier<SumMoved> desk, Call call, int place, long refusal, int least, long dueAtLeast,
            int most, long dueAtMost) {
        ask(desk, call.but(place, least), dueAtLeast);
        ask(desk, call.but(place, most), dueAtMost);
        for (int outside : new int[] {least - 1, most + 1, Integer.MIN_VALUE, Integer.MAX_VALUE}) {
            ask(desk, call.but(place, outside), refusal);
        }
    }

    /** Each on a desk of its own, so that none sees what another did. */
    static void ask(Supplier<SumMoved> desk, Call call, long due) {
        Due.is(call.toString(), call.on(desk.get()), due);
    }

    /** A call whose last number asks for the upper (0) and the lower (1) of a fraction. */
    static void fraction(SumMoved x, String name, long upper, long lower, int... with) {
        Call ofUpper = new Call(name, Arrays.copyOf(with, with.length + 1));
        Call ofLower = ofUpper.but(with.length, 1);
        Due.is(ofUpper.toString(), ofUpper.on(x), upper);
        Due.is(ofLower.toString(), ofLower.on(x), lower);
    }
}
