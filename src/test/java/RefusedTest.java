import java.util.ArrayList;
import java.util.List;
import java.util.function.Supplier;

/**
 * 'What is refused changes nothing': every call with a number that is not as said, and every refusal that the state
 * asks for, on a new, a busy and a full desk. A like desk that was not asked says what is due afterwards.
 */
public final class RefusedTest {
    private static final int NONE = SumMoved.NONE, BAD = Desk.BAD;
    private static final long NO = SumMoved.NO;

    private record Refusal(Call call, long answer) {
    }

    public static void main(String[] args) {
        Due.of("What is refused changes nothing");
        Due.holds("an object is used for at most 512 calls", 120 + 9 + 1 + Probes.ALL.size() <= 512);
        changeNothing(SumMoved::new, outside(0));
        changeNothing(SumMoved::new, ofNoRows());
        changeNothing(Desk::busy, outside(5));
        changeNothing(Desk::busy, ofTheState());
        changeNothing(Desk::full, outside(120));
        changeNothing(Desk::full, List.of(new Refusal(Call.of("row", 0, 0, 0, 0, 0), SumMoved.FULL),
                new Refusal(Call.of("row", 130, 99, 9, 63, 511), SumMoved.FULL)));
        sameDeskBeforeAndAfter();
        objectsApart();
        Due.end();
    }

    private static List<Long> answers(SumMoved x) {
        List<Long> answers = new ArrayList<>();
        for (Call probe : Probes.ALL) {
            answers.add(probe.on(x));
        }
        return answers;
    }

    private static void changeNothing(Supplier<SumMoved> desk, List<Refusal> refusals) {
        List<Long> due = answers(desk.get());
        for (Refusal refusal : refusals) {
            SumMoved x = desk.get();
            Due.is(refusal.call().toString(), refusal.call().on(x), refusal.answer());
            List<Long> got = answers(x);
            for (int i = 0; i < due.size(); i++) {
                Due.is("after " + refusal.call() + ": " + Probes.ALL.get(i), got.get(i), due.get(i));
            }
        }
    }

    /** The number at a place is just below, just above, or farthest from least .. most. */
    private static void outside(List<Refusal> to, Call good, int place, int least, int most, long answer) {
        for (int number : new int[] {least - 1, most + 1, Integer.MIN_VALUE, Integer.MAX_VALUE}) {
            to.add(new Refusal(good.but(place, number), answer));
        }
    }

    private static List<Refusal> outside(int rows) {
        List<Refusal> all = new ArrayList<>();
        Call row = Call.of("row", 100, 77, 7, 7, 77);
        outside(all, row, 0, 0, 30, NONE);
        outside(all, row, 0, 100, 130, NONE);
        outside(all, row, 1, -99, 99, NONE);
        outside(all, row, 2, 0, 9, NONE);
        outside(all, row, 3, 0, 63, NONE);
        outside(all, row, 4, 0, 511, NONE);
        outside(all, Call.of("right", 0, 77, 7), 0, 0, rows - 1, NONE);
        outside(all, Call.of("right", 0, 77, 7), 1, -99, 99, NONE);
        outside(all, Call.of("right", 0, 77, 7), 2, 0, 9, NONE);
        outside(all, Call.of("strike", 0, 1), 0, 0, rows - 1, NONE);
        outside(all, Call.of("strike", 0, 0), 0, 0, rows - 1, NONE);
        outside(all, Call.of("strike", 0, 1), 1, 0, 1, NONE);
        outside(all, Call.of("strike", 3, 1), 1, 0, 1, NONE);
        outside(all, Call.of("about", 0, 0), 0, 0, rows - 1, -1000);
        outside(all, Call.of("about", 0, 0), 1, 0, 8, -1000);
        ofMeasures(all);
        ofPartings(all);
        ofSwitchesAndStories(all);
        return all;
    }

    private static void ofMeasures(List<Refusal> all) {
        outside(all, Call.of("sum", 0, 0, 0), 0, 0, 728, BAD);
        outside(all, Call.of("sum", 0, 0, 0), 1, 0, 1, BAD);
        outside(all, Call.of("sum", 0, 0, 0), 2, 0, 3, BAD);
        outside(all, Call.of("change", 0, 0), 0, 0, 728, BAD);
        outside(all, Call.of("change", 0, 0), 1, 0, 3, BAD);
        outside(all, Call.of("rate", 0, 0, 0), 0, 0, 728, BAD);
        outside(all, Call.of("rate", 0, 0, 0), 1, 0, 1, BAD);
        outside(all, Call.of("rate", 0, 0, 0), 2, 0, 1, BAD);
        outside(all, Call.of("shift", 0, 0), 0, 0, 728, NO);
        outside(all, Call.of("shift", 0, 0), 1, 0, 1, NO);
    }

    private static void ofPartings(List<Refusal> all) {
        Call part = Call.of("part", 0, 0, 0, 0, 0), rounded = Call.of("rounded", 0, 0, 0, 10);
        int[] most = {728, 2, 7, 1, 1};
        for (int place = 0; place < 5; place++) {
            outside(all, part, place, 0, most[place], NO);
        }
        for (int mark = 0; mark < 3; mark++) {
            all.add(new Refusal(part.but(0, 728).but(1, mark), NO));
            all.add(new Refusal(rounded.but(0, 728).but(1, mark), BAD));
        }
        outside(all, Call.of("moves", 0, 0), 0, 0, 2, NONE);
        outside(all, Call.of("moves", 0, 0), 1, 0, 3, NONE);
        outside(all, Call.of("move", 0, 0), 0, 0, 2, NONE);
        outside(all, Call.of("move", 0, 0), 1, 0, 63, NONE);
        outside(all, rounded, 0, 0, 728, BAD);
        outside(all, rounded, 1, 0, 2, BAD);
        outside(all, rounded, 2, 0, 8, BAD);
        outside(all, rounded, 3, 1, 1000, BAD);
        outside(all, rounded.but(2, 8), 3, 1, 1000, BAD);
    }

    private static void ofSwitchesAndStories(List<Refusal> all) {
        for (int i = 0; i < 5; i++) {
            outside(all, Call.of("factor", i, 55, -44), 1, -99, 99, NONE);
            outside(all, Call.of("factor", i, 55, -44), 2, -99, 99, NONE);
        }
        outside(all, Call.of("factor", 0, 55, -44), 0, 0, 4, NONE);
        outside(all, Call.of("outcome", 0), 0, 0, 31, BAD);
        outside(all, Call.of("share", 0, 0), 0, 0, 4, BAD);
        outside(all, Call.of("share", 0, 0), 1, 0, 1, BAD);
        outside(all, Call.of("expect", 0), 0, -9999, 9999, BAD);
        for (int n = 0; n < 3; n++) {
            outside(all, Call.of("seek", 0, n), 0, 0, 1000, NONE);
        }
        outside(all, Call.of("seek", 0, 0), 1, 0, 2, NONE);
        outside(all, Call.of("seek", 1000, 0), 1, 0, 2, NONE);
        outside(all, Call.of("story", 0), 0, 0, 3, BAD);
        outside(all, Call.of("toll", 1, -1, 0), 0, 0, 728, NONE);
        outside(all, Call.of("toll", 8, 1, 0), 1, -1, 728, NONE);
        outside(all, Call.of("toll", 8, -1, 0), 2, 0, 1000, NONE);
        outside(all, Call.of("first", 0, 0), 0, 0, 728, NONE);
        outside(all, Call.of("first", 0, 0), 1, 0, 9999, NONE);
        outside(all, Call.of("count", 0), 0, 0, 2, NONE);
    }

    private static List<Refusal> ofNoRows() {
        List<Refusal> all = new ArrayList<>();
        all.add(new Refusal(Call.of("right", 0, 0, 0), NONE));
        all.add(new Refusal(Call.of("strike", 0, 1), NONE));
        all.add(new Refusal(Call.of("strike", 0, 0), NONE));
        all.add(new Refusal(Call.of("about", 0, 8), -1000));
        all.add(new Refusal(Call.of("shift", 0, 0), NO));
        all.add(new Refusal(Call.of("part", 0, 0, 0, 0, 0), NO));
        all.add(new Refusal(Call.of("story", 0), BAD));
        all.add(new Refusal(Call.of("toll", 1, -1, 0), NONE));
        all.add(new Refusal(Call.of("toll", -1, -1, 0), NONE));
        return all;
    }

    private static List<Refusal> ofTheState() {
        List<Refusal> all = new ArrayList<>();
        all.add(new Refusal(Call.of("shift", 2, 0), NO));
        all.add(new Refusal(Call.of("part", 2, 1, 0, 0, 0), NO));
        all.add(new Refusal(Call.of("part", 1, 0, 0, 0, 0), NO));
        all.add(new Refusal(Call.of("rounded", 72, 1, 8, 10), BAD));
        all.add(new Refusal(Call.of("toll", 0, -1, 0), NONE));
        all.add(new Refusal(Call.of("toll", 728, -1, 0), NONE));
        all.add(new Refusal(Call.of("toll", 5, -1, 0), NONE));
        all.add(new Refusal(Call.of("toll", 1, 1, 0), SumMoved.STATE));
        all.add(new Refusal(Call.of("toll", 1, 9, 0), SumMoved.STATE));
        all.add(new Refusal(Call.of("toll", 8, 720, 0), SumMoved.STATE));
        return all;
    }

    /** Calls that change nothing when they are granted: an object is asked them twice, with refused ones between. */
    private static void sameDeskBeforeAndAfter() {
        List<Call> asking = Probes.ALL.subList(0, Probes.ALL.size() - Probes.CHANGING);
        int half = asking.size() / 2;
        beforeAndAfter(asking.subList(0, half));
        beforeAndAfter(asking.subList(half, asking.size()));
    }

    private static void beforeAndAfter(List<Call> asking) {
        SumMoved x = Desk.busy();
        List<Long> before = new ArrayList<>();
        for (Call call : asking) {
            before.add(call.on(x));
        }
        Due.is("row", x.row(31, 0, 0, 0, 0), -1);
        Due.is("right", x.right(0, 100, 0), -1);
        Due.is("strike", x.strike(5, 1), -1);
        Due.is("factor", x.factor(0, 0, 100), -1);
        Due.is("expect", x.expect(10000), BAD);
        Due.is("seek", x.seek(0, 3), -1);
        Due.is("toll", x.toll(1, 1, 0), -3);
        for (int i = 0; i < asking.size(); i++) {
            Due.is("afterwards: " + asking.get(i), asking.get(i).on(x), before.get(i));
        }
    }

    private static void objectsApart() {
        Due.of("All memory is the class's own");
        SumMoved x = Desk.busy(), y = Desk.full(), z = new SumMoved();
        List<Long> dueOfX = answers(Desk.busy()), dueOfY = answers(Desk.full()), dueOfZ = answers(new SumMoved());
        for (int i = 0; i < Probes.ALL.size(); i++) {
            Call probe = Probes.ALL.get(i);
            Due.is("busy: " + probe, probe.on(x), dueOfX.get(i));
            Due.is("full: " + probe, probe.on(y), dueOfY.get(i));
            Due.is("new: " + probe, probe.on(z), dueOfZ.get(i));
        }
    }
}
