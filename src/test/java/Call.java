/** One call of the face by its name and numbers, so that tables of calls can be written, tried and told. */
final class Call {
    private final String name;
    private final long[] numbers;

    private Call(String name, long[] numbers) {
        this.name = name;
        this.numbers = numbers;
    }

    static Call of(String name, long... numbers) {
        return new Call(name, numbers.clone());
    }

    String name() {
        return name;
    }

    int length() {
        return numbers.length;
    }

    /** The same call, but for one number. */
    Call with(int place, long number) {
        long[] other = numbers.clone();
        other[place] = number;
        return new Call(name, other);
    }

    /** What the call answers when it is refused: false, which counts 0, or NONE. */
    long refusal() {
        switch (name) {
            case "kind", "start", "feed", "rate", "bound", "room", "load": return 0;
            default: return DigesterRates.NONE;
        }
    }

    /** A boolean counts 1 or 0. */
    long on(DigesterRates x) {
        switch (name) {
            case "kind": return x.kind(at(0), at(1), at(2)) ? 1 : 0;
            case "start": return x.start(at(0), at(1)) ? 1 : 0;
            case "feed": return x.feed(at(0), at(1), at(2)) ? 1 : 0;
            case "rate": return x.rate(at(0), at(1)) ? 1 : 0;
            case "bound": return x.bound(at(0)) ? 1 : 0;
            case "room": return x.room(at(0)) ? 1 : 0;
            case "rank": return x.rank(at(0), at(1));
            case "run": return x.run(at(0));
            case "at": return x.at(at(0));
            case "given": return x.given(at(0));
            case "gone": return x.gone(at(0));
            case "balance": return x.balance(at(0));
            case "acid": return x.acid();
            case "sour": return x.sour(numbers[0]);
            case "load": return x.load(at(0), at(1), at(2), at(3)) ? 1 : 0;
            case "plan": return x.plan(at(0));
            case "planned": return x.planned(at(0));
            case "serve": return x.serve();
            default: throw new IllegalStateException("no call is named " + name);
        }
    }

    private int at(int place) {
        return Math.toIntExact(numbers[place]);
    }

    @Override
    public String toString() {
        StringBuilder text = new StringBuilder(name).append('(');
        for (int i = 0; i < numbers.length; i++) {
            text.append(i == 0 ? "" : ", ").append(numbers[i]);
        }
        return text.append(')').toString();
    }
}
