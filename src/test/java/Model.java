import java.util.ArrayList;
import java.util.Collections;
import java.util.Comparator;
import java.util.HashSet;
import java.util.List;
import java.util.Set;
import java.util.TreeSet;

/** The document's words put down once more, as slowly and plainly as they stand, with the library. */
final class Model {
    private static final class Row {
        int month, day, top, base, member;
        int[] marks;
        boolean struck;
    }

    private record Story(List<Integer> heaps, int rest, int toll) {
    }

    private final List<Row> rows = new ArrayList<>();
    private final int[] before = new int[5], after = new int[5];
    private int expected = 0;
    private Story best = null;

    private static boolean in(int x, int least, int most) {
        return least <= x && x <= most;
    }

    int row(int when, int top, int base, int member, int marks) {
        if (!in(when, 0, 30) && !in(when, 100, 130)) return -1;
        if (!in(top, -99, 99) || !in(base, 0, 9) || !in(member, 0, 63) || !in(marks, 0, 511)) return -1;
        if (rows.size() == 120) return -2;
        Row r = new Row();
        r.month = when >= 100 ? 1 : 0;
        r.day = when >= 100 ? when - 100 : when;
        r.top = top;
        r.base = base;
        r.member = member;
        r.marks = new int[] {marks % 8, marks / 8 % 8, marks / 64};
        rows.add(r);
        return rows.size() - 1;
    }

    int right(int row, int top, int base) {
        if (!in(row, 0, rows.size() - 1) || !in(top, -99, 99) || !in(base, 0, 9)) return -1;
        rows.get(row).top = top;
        rows.get(row).base = base;
        return 1;
    }

    int strike(int row, int is) {
        if (!in(row, 0, rows.size() - 1) || !in(is, 0, 1)) return -1;
        int was = rows.get(row).struck ? 1 : 0;
        rows.get(row).struck = is == 1;
        return was;
    }

    int about(int row, int what) {
        if (!in(row, 0, rows.size() - 1) || !in(what, 0, 8)) return -1000;
        Row r = rows.get(row);
        int[] all = {r.month, r.day, r.top, r.base, r.member, r.marks[0], r.marks[1], r.marks[2], r.struck ? 1 : 0};
        return all[what];
    }

    private static int[] digits(int heap) {
        return new int[] {heap % 9, heap / 9 % 9, heap / 81 % 9};
    }

    private static int tests(int heap) {
        int many = 0;
        for (int d : digits(heap)) many += d != 0 ? 1 : 0;
        return many;
    }

    private List<Row> rowsOf(int heap) {
        List<Row> of = new ArrayList<>();
        int[] d = digits(heap);
        for (Row r : rows) {
            boolean all = !r.struck;
            for (int m = 0; m < 3; m++) all &= d[m] == 0 || d[m] == r.marks[m] + 1;
            if (all) of.add(r);
        }
        return of;
    }

    int sum(int heap, int month, int measure) {
        if (!in(heap, 0, 728) || !in(month, 0, 1) || !in(measure, 0, 3)) return -1000000;
        int tops = 0, many = 0, bases = 0;
        Set<Integer> members = new HashSet<>();
        for (Row r : rowsOf(heap)) {
            if (r.month != month) continue;
            tops += r.top;
            many++;
            bases += r.base;
            members.add(r.member);
        }
        return new int[] {tops, many, bases, members.size()}[measure];
    }

    int change(int heap, int measure) {
        if (!in(heap, 0, 728) || !in(measure, 0, 3)) return -1000000;
        return sum(heap, 1, measure) - sum(heap, 0, measure);
    }

    private Ratio ratio(int heap, int month) {
        int bases = sum(heap, month, 2);
        return bases == 0 ? null : Ratio.of(sum(heap, month, 0), bases);
    }

    int rate(int heap, int month, int what) {
        if (!in(heap, 0, 728) || !in(month, 0, 1) || !in(what, 0, 1)) return -1000000;
        Ratio rate = ratio(heap, month);
        return rate == null ? 0 : (int) rate.tell(what);
    }

    long shift(int heap, int what) {
        if (!in(heap, 0, 728) || !in(what, 0, 1)) return SumMoved.NO;
        if (ratio(heap, 0) == null || ratio(heap, 1) == null) return SumMoved.NO;
        return ratio(heap, 1).minus(ratio(heap, 0)).tell(what);
    }

    private static int more(int heap, int mark, int value) {
        return heap + (value + 1) * new int[] {1, 9, 81}[mark];
    }

    long part(int heap, int mark, int value, int kind, int what) {
        if (!in(heap, 0, 728) || !in(mark, 0, 2) || !in(value, 0, 7) || !in(kind, 0, 1) || !in(what, 0, 1)) {
            return SumMoved.NO;
        }
        if (digits(heap)[mark] != 0 || ratio(heap, 0) == null || ratio(heap, 1) == null) return SumMoved.NO;
        return parted(heap, more(heap, mark, value), kind).tell(what);
    }

    private Ratio parted(int heap, int piece, int kind) {
        int a0 = sum(piece, 0, 0), a1 = sum(piece, 1, 0), b0 = sum(piece, 0, 2), b1 = sum(piece, 1, 2);
        int all0 = sum(heap, 0, 2), all1 = sum(heap, 1, 2);
        Ratio half = Ratio.of(1, 2);
        if (b0 > 0 && b1 > 0) {
            Ratio rate0 = Ratio.of(a0, b0), rate1 = Ratio.of(a1, b1);
            Ratio weight0 = Ratio.of(b0, all0), weight1 = Ratio.of(b1, all1);
            return kind == 0 ? rate1.minus(rate0).times(weight0.plus(weight1)).times(half)
                    : weight1.minus(weight0).times(rate0.plus(rate1)).times(half);
        }
        return kind == 0 ? Ratio.of(0, 1) : Ratio.of(a1, all1).minus(Ratio.of(a0, all0));
    }

    int moves(int mark, int how) {
        if (!in(mark, 0, 2) || !in(how, 0, 3)) return -1;
        int many = 0;
        for (int member = 0; member < 64; member++) many += move(mark, member) == how ? 1 : 0;
        return many;
    }

    int move(int mark, int member) {
        if (!in(mark, 0, 2) || !in(member, 0, 63)) return -1;
        List<Set<Integer>> values = List.of(new TreeSet<>(), new TreeSet<>());
        for (Row r : rows) {
            if (!r.struck && r.member == member) values.get(r.month).add(r.marks[mark]);
        }
        boolean was = !values.get(0).isEmpty(), is = !values.get(1).isEmpty();
        if (!was && !is) return 4;
        if (!was) return 0;
        if (!is) return 1;
        return values.get(0).equals(values.get(1)) ? 2 : 3;
    }

    int rounded(int heap, int mark, int value, int unit) {
        if (!in(heap, 0, 728) || !in(mark, 0, 2) || !in(value, 0, 8) || !in(unit, 1, 1000)) return -1000000;
        if (digits(heap)[mark] != 0) return -1000000;
        int[] units = new int[9], over = new int[8];
        List<Integer> order = new ArrayList<>();
        units[8] = (int) Math.floor(change(heap, 0) / (double) unit);
        int toGive = units[8];
        for (int v = 0; v < 8; v++) {
            int piece = change(more(heap, mark, v), 0);
            units[v] = (int) Math.floor(piece / (double) unit);
            over[v] = piece - units[v] * unit;
            toGive -= units[v];
            order.add(v);
        }
        order.sort(Comparator.comparing((Integer v) -> -over[v]).thenComparing(v -> v));
        for (int k = 0; k < toGive; k++) units[order.get(k)]++;
        return units[value];
    }

    int factor(int i, int was, int is) {
        if (!in(i, 0, 4) || !in(was, -99, 99) || !in(is, -99, 99)) return -1;
        before[i] = was;
        after[i] = is;
        return 1;
    }

    int outcome(int set) {
        if (!in(set, 0, 31)) return -1000000;
        int[] f = new int[5];
        for (int i = 0; i < 5; i++) f[i] = (set & 1 << i) != 0 ? after[i] : before[i];
        return f[0] * f[1] + f[2] * f[3] + f[4];
    }

    int share(int i, int what) {
        if (!in(i, 0, 4) || !in(what, 0, 1)) return -1000000;
        List<List<Integer>> orders = new ArrayList<>();
        permute(new ArrayList<>(), orders);
        long total = 0;
        for (List<Integer> order : orders) {
            int set = 0;
            for (int k = 0; order.get(k) != i; k++) set |= 1 << order.get(k);
            total += outcome(set | 1 << i) - outcome(set);
        }
        return (int) Ratio.of(total, orders.size()).tell(what);
    }

    private static void permute(List<Integer> begun, List<List<Integer>> into) {
        if (begun.size() == 5) into.add(new ArrayList<>(begun));
        for (int i = 0; i < 5; i++) {
            if (begun.contains(i)) continue;
            begun.add(i);
            permute(begun, into);
            begun.remove(begun.size() - 1);
        }
    }

    int expect(int v) {
        if (!in(v, -9999, 9999)) return -1000000;
        int was = expected;
        expected = v;
        return was;
    }

    private List<Integer> tellers() {
        List<Integer> all = new ArrayList<>();
        for (int h = 0; h < 729; h++) {
            if (in(tests(h), 1, 2) && !rowsOf(h).isEmpty()) all.add(h);
        }
        return all;
    }

    private Story told(int c, Integer... heaps) {
        int rest = change(0, 0) - expected, price = 0;
        for (int h : heaps) {
            rest -= change(h, 0);
            price += c * tests(h);
        }
        return new Story(List.of(heaps), rest, Math.abs(rest) + price);
    }

    int seek(int c, int n) {
        if (!in(c, 0, 1000) || !in(n, 0, 2)) return -1;
        List<Story> all = new ArrayList<>();
        List<Integer> heaps = tellers();
        all.add(told(c));
        if (n >= 1) for (int a : heaps) all.add(told(c, a));
        if (n == 2) {
            for (int a : heaps) {
                for (int b : heaps) {
                    if (a < b && Collections.disjoint(rowsOf(a), rowsOf(b))) all.add(told(c, a, b));
                }
            }
        }
        best = Collections.min(all, Comparator.comparing(Story::toll).thenComparing(s -> s.heaps().size())
                .thenComparing(s -> s.heaps().size() > 0 ? s.heaps().get(0) : -1)
                .thenComparing(s -> s.heaps().size() > 1 ? s.heaps().get(1) : -1));
        return best.toll();
    }

    int story(int what) {
        if (best == null || !in(what, 0, 3)) return -1000000;
        int many = best.heaps().size();
        return new int[] {many, many > 0 ? best.heaps().get(0) : -1, many > 1 ? best.heaps().get(1) : -1,
            best.rest()}[what];
    }

    int toll(int a, int b, int c) {
        List<Integer> heaps = tellers();
        if (!in(c, 0, 1000) || !heaps.contains(a) || b != -1 && !heaps.contains(b)) return -1;
        if (b == -1) return told(c, a).toll();
        if (a == b || !Collections.disjoint(rowsOf(a), rowsOf(b))) return -3;
        return told(c, a, b).toll();
    }

    int first(int heap, int bound) {
        if (!in(heap, 0, 728) || !in(bound, 0, 9999)) return -1;
        for (int d = 0; d <= 30; d++) {
            int moved = 0;
            for (Row r : rowsOf(heap)) {
                if (r.day <= d && r.month == 1) moved += r.top;
                if (r.day <= d && r.month == 0) moved -= r.top;
            }
            if (moved > bound || -moved > bound) return d;
        }
        return 31;
    }

    int count(int what) {
        int struck = 0;
        for (Row r : rows) struck += r.struck ? 1 : 0;
        return what == 0 ? rows.size() : what == 1 ? struck : what == 2 ? tellers().size() : -1;
    }
}
