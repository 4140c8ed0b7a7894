/** A call told by its name and numbers, so that tables can hold it and two desks can be asked the same. */
record Call(String name, int... with) {
    static Call of(String name, int... with) {
        return new Call(name, with);
    }

    long on(SumMoved x) {
        int[] w = with;
        return switch (name) {
            case "row" -> x.row(w[0], w[1], w[2], w[3], w[4]);
            case "right" -> x.right(w[0], w[1], w[2]);
            case "strike" -> x.strike(w[0], w[1]);
            case "about" -> x.about(w[0], w[1]);
            case "sum" -> x.sum(w[0], w[1], w[2]);
            case "change" -> x.change(w[0], w[1]);
            case "rate" -> x.rate(w[0], w[1], w[2]);
            case "shift" -> x.shift(w[0], w[1]);
            case "part" -> x.part(w[0], w[1], w[2], w[3], w[4]);
            case "moves" -> x.moves(w[0], w[1]);
            case "move" -> x.move(w[0], w[1]);
            case "rounded" -> x.rounded(w[0], w[1], w[2], w[3]);
            case "factor" -> x.factor(w[0], w[1], w[2]);
            case "outcome" -> x.outcome(w[0]);
            case "share" -> x.share(w[0], w[1]);
            case "expect" -> x.expect(w[0]);
            case "seek" -> x.seek(w[0], w[1]);
            case "story" -> x.story(w[0]);
            case "toll" -> x.toll(w[0], w[1], w[2]);
            case "first" -> x.first(w[0], w[1]);
            case "count" -> x.count(w[0]);
            default -> throw new IllegalArgumentException(name);
        };
    }

    /** The same call with another number at one place. */
    Call but(int place, int number) {
        int[] others = with.clone();
        others[place] = number;
        return new Call(name, others);
    }

    @Override
    public String toString() {
        StringBuilder text = new StringBuilder(name + "(");
        for (int i = 0; i < with.length; i++) {
            text.append(i == 0 ? "" : ", ").append(with[i]);
        }
        return text.append(")").toString();
    }
}
