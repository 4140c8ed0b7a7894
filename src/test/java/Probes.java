import java.util.ArrayList;
import java.util.List;

/** Calls that together see all that an object holds. With a full desk's own calls they stay under 512. */
final class Probes {
    private static final int[] HEAPS = {0, 1, 8, 10, 72, 656, 728};
    private static final int[] ROWS = {0, 1, 3, 4, 5, 64, 119, 120};

    /** What is counted from the rows, but not the rows themselves. */
    static final List<Call> OF_HEAPS = ofHeaps();
    /** All, the ones that change something last. */
    static final List<Call> ALL = all();
    /** How many are last: seek(), the four story() that see what it found, expect(), row(). */
    static final int CHANGING = 7;

    private Probes() {
    }

    private static List<Call> ofHeaps() {
        List<Call> calls = new ArrayList<>();
        for (int heap : HEAPS) {
            for (int i = 0; i < 8; i++) {
                calls.add(Call.of("sum", heap, i / 4, i % 4));
            }
            for (int i = 0; i < 4; i++) {
                calls.add(Call.of("change", heap, i));
                calls.add(Call.of("rate", heap, i / 2, i % 2));
            }
            calls.add(Call.of("shift", heap, 0));
            calls.add(Call.of("shift", heap, 1));
        }
        for (int value = 0; value < 8; value++) {
            for (int i = 0; i < 4; i++) {
                calls.add(Call.of("part", 0, 0, value, i / 2, i % 2));
            }
            calls.add(Call.of("rounded", 0, 1, value, 10));
        }
        for (int mark = 0; mark < 3; mark++) {
            for (int how = 0; how < 4; how++) {
                calls.add(Call.of("moves", mark, how));
            }
            for (int member : new int[] {0, 1, 63}) {
                calls.add(Call.of("move", mark, member));
            }
        }
        calls.add(Call.of("rounded", 0, 1, 8, 10));
        for (int bound : new int[] {0, 20, 300}) {
            calls.add(Call.of("first", 0, bound));
        }
        calls.add(Call.of("toll", 1, -1, 3));
        calls.add(Call.of("toll", 1, 2, 3));
        calls.add(Call.of("toll", 8, 1, 1));
        calls.add(Call.of("toll", 656, -1, 1));
        calls.add(Call.of("count", 2));
        return calls;
    }

    private static List<Call> all() {
        List<Call> calls = new ArrayList<>();
        for (int what = 0; what < 4; what++) {
            calls.add(Call.of("story", what));
        }
        calls.add(Call.of("count", 0));
        calls.add(Call.of("count", 1));
        for (int row : ROWS) {
            for (int what = 0; what < 9; what++) {
                calls.add(Call.of("about", row, what));
            }
        }
        calls.addAll(OF_HEAPS);
        for (int set : new int[] {0, 21, 31}) {
            calls.add(Call.of("outcome", set));
        }
        for (int i = 0; i < 10; i++) {
            calls.add(Call.of("share", i / 2, i % 2));
        }
        for (int what = 0; what < 4; what++) {
            calls.add(Call.of("story", what));
        }
        calls.add(Call.of("seek", 1, 2));
        for (int what = 0; what < 4; what++) {
            calls.add(Call.of("story", what));
        }
        calls.add(Call.of("expect", 1));
        calls.add(Call.of("row", 0, 0, 0, 0, 0));
        return calls;
    }
}
