import java.util.Random;

/** Long runs of calls, each asked of the class and of the plain model; the seed is fixed, so all runs are the same. */
public final class ModelTest {
    /** The last step may ask seven times (seek and story), and 512 calls are promised. */
    private static final int RUNS = 240, CALLS = 506;

    private final Random random;
    private final SumMoved x = new SumMoved();
    private final Model model = new Model();
    private final int run, values, members;
    private int seeks = 0, asked = 0;

    private ModelTest(int run) {
        this.run = run;
        random = new Random(7919L * run);
        // Few values and members make heaps of many rows; many make heaps of one.
        values = 1 + random.nextInt(8);
        members = 1 + random.nextInt(64);
    }

    public static void main(String[] args) {
        for (int run = 0; run < RUNS; run++) {
            new ModelTest(run).play();
        }
        Due.end();
    }

    private void play() {
        while (asked < CALLS) {
            boolean filling = random.nextInt(CALLS) > asked * 2;
            int which = filling ? 0 : random.nextInt(22);
            if (which < 9) {
                rowsAndMeasures(which);
            } else {
                others(which);
            }
        }
    }

    /** Mostly least .. most, at times just outside, at times far off. */
    private int near(int least, int most) {
        int dice = random.nextInt(60);
        if (dice == 0) return least - 1;
        if (dice == 1) return most + 1;
        if (dice == 2) return random.nextInt();
        if (dice == 3) return random.nextBoolean() ? Integer.MIN_VALUE : Integer.MAX_VALUE;
        if (dice == 4) return least;
        if (dice == 5) return most;
        return least + random.nextInt(most - least + 1);
    }

    private int heap() {
        if (random.nextInt(20) == 0) return near(0, 728);
        int heap = 0;
        for (int place = 81; place > 0; place /= 9) {
            if (random.nextInt(5) < 2) heap += place * (1 + random.nextInt(values));
        }
        return heap;
    }

    private int marks() {
        if (random.nextInt(60) == 0) return near(0, 511);
        return random.nextInt(values) * 64 + random.nextInt(values) * 8 + random.nextInt(values);
    }

    private int member() {
        return random.nextInt(60) == 0 ? near(0, 63) : random.nextInt(members);
    }

    private void due(String name, long got, long want, int... with) {
        asked++;
        StringBuilder text = new StringBuilder("run " + run + ": " + name + "(");
        for (int i = 0; i < with.length; i++) {
            text.append(i == 0 ? "" : ", ").append(with[i]);
        }
        Due.is(text.append(")").toString(), got, want);
    }

    private void rowsAndMeasures(int which) {
        int a = heap(), b = near(0, 1), c = near(0, 3), row = near(0, Math.max(0, model.count(0) - 1));
        int top = near(-99, 99), base = random.nextInt(3) == 0 ? 0 : near(0, 9);
        switch (which) {
            case 0, 1 -> {
                int when = (random.nextBoolean() ? 100 : 0) + near(0, 30), member = member(), marks = marks();
                due("row", x.row(when, top, base, member, marks), model.row(when, top, base, member, marks),
                        when, top, base, member, marks);
            }
            case 2 -> due("right", x.right(row, top, base), model.right(row, top, base), row, top, base);
            case 3 -> due("strike", x.strike(row, b), model.strike(row, b), row, b);
            case 4 -> {
                int what = near(0, 8);
                due("about", x.about(row, what), model.about(row, what), row, what);
            }
            case 5 -> due("sum", x.sum(a, b, c), model.sum(a, b, c), a, b, c);
            case 6 -> due("change", x.change(a, c), model.change(a, c), a, c);
            case 7 -> {
                int what = near(0, 1);
                due("rate", x.rate(a, b, what), model.rate(a, b, what), a, b, what);
            }
            default -> due("shift", x.shift(a, b), model.shift(a, b), a, b);
        }
    }

    private void others(int which) {
        int heap = heap(), mark = near(0, 2), a = near(0, 1), b = near(0, 1), i = near(0, 4);
        switch (which) {
            case 9 -> {
                int value = near(0, 7);
                due("part", x.part(heap, mark, value, a, b), model.part(heap, mark, value, a, b),
                        heap, mark, value, a, b);
            }
            case 10 -> {
                int how = near(0, 3);
                due("moves", x.moves(mark, how), model.moves(mark, how), mark, how);
            }
            case 11 -> {
                int member = member();
                due("move", x.move(mark, member), model.move(mark, member), mark, member);
            }
            case 12 -> {
                int value = near(0, 8), unit = random.nextBoolean() ? near(1, 30) : near(1, 1000);
                due("rounded", x.rounded(heap, mark, value, unit), model.rounded(heap, mark, value, unit),
                        heap, mark, value, unit);
            }
            case 13 -> {
                int was = near(-99, 99), is = near(-99, 99);
                due("factor", x.factor(i, was, is), model.factor(i, was, is), i, was, is);
            }
            case 14 -> {
                int set = near(0, 31);
                due("outcome", x.outcome(set), model.outcome(set), set);
            }
            case 15 -> due("share", x.share(i, a), model.share(i, a), i, a);
            default -> stories(which, heap);
        }
    }

    private void stories(int which, int heap) {
        switch (which) {
            case 16 -> {
                int v = random.nextBoolean() ? near(-300, 300) : near(-9999, 9999);
                due("expect", x.expect(v), model.expect(v), v);
            }
            case 17 -> seek();
            case 18 -> {
                int b = random.nextInt(3) == 0 ? near(-1, -1) : heap(), c = near(0, 1000);
                due("toll", x.toll(heap, b, c), model.toll(heap, b, c), heap, b, c);
            }
            case 19 -> {
                int bound = random.nextBoolean() ? near(0, 300) : near(0, 9999);
                due("first", x.first(heap, bound), model.first(heap, bound), heap, bound);
            }
            case 20 -> {
                int what = near(0, 2);
                due("count", x.count(what), model.count(what), what);
            }
            // Rows and EXPECTED may have changed since the latest seek().
            default -> {
                int what = near(0, 3);
                due("story", x.story(what), model.story(what), what);
            }
        }
    }

    private void seek() {
        // The model's pairs are slow: a few a run are enough.
        int c = random.nextInt(3) == 0 ? near(0, 1000) : near(0, 12), n = seeks++ < 2 ? near(0, 2) : near(0, 1);
        due("seek", x.seek(c, n), model.seek(c, n), c, n);
        for (int what = -1; what < 5; what++) {
            due("story", x.story(what), model.story(what), what);
        }
    }
}
