/** Promise 1: what a new object answers, and that objects share nothing. */
public final class NewObjectTest {
    public static void main(String[] args) {
        Due due = new Due();
        nothingIsInIt(due, "new", new DigesterRates());
        objectsShareNothing(due);
        firstSettings(due);
        due.end();
    }

    private static void nothingIsInIt(Due due, String when, DigesterRates x) {
        due.parts(when, x, 0, 0, 0, 0);
        due.gas(when, x, 0, 0, 0, 0);
        due.same(when + ": gone(0)", x.gone(0), 0);
        due.same(when + ": balance(0)", x.balance(0), 0);
        due.same(when + ": balance(1)", x.balance(1), 0);
        due.same(when + ": acid()", x.acid(), 0);
        due.same(when + ": sour(0)", x.sour(0), -1);
        due.same(when + ": given(0)", x.given(0), -1);
        due.plan(when, x, -1, -1, -1, -1);
        due.same(when + ": serve()", x.serve(), -1);
        due.same(when + ": plan(1)", x.plan(1), -1);
        due.same(when + ": run(1)", x.run(1), 1);
        due.parts(when + ", a minute later", x, 0, 0, 0, 0);
    }

    private static void objectsShareNothing(Due due) {
        DigesterRates full = new DigesterRates();
        full.kind(0, 0, 500);
        full.start(2, 1000);
        full.feed(0, 0, 100);
        full.rate(2, 500000);
        full.rank(1, 5);
        full.load(0, 10, 1, 1);
        full.plan(1);
        full.run(3);
        nothingIsInIt(due, "beside a full one", new DigesterRates());
    }

    /** Rates and room are 0, the bound is 1000000000, and a kind is all part 3. */
    private static void firstSettings(Due due) {
        DigesterRates x = new DigesterRates();
        // Twice, for a single millionth of once would be slowed to nothing.
        for (int i = 0; i < 8; i++) {
            x.start(i % 4, 1000000);
        }
        for (int kind = 0; kind < 4; kind++) {
            due.yes("feed", x.feed(0, kind, 1000));
        }
        x.run(1);
        due.parts("rates at first", x, 2000000, 2000000, 2000000, 2004000);
        x.rate(2, 1000000);
        x.run(1);
        // The bound at first: 1000 * 2000000 / 1000000000 is 2, so s is 998.
        due.gas("bound and room at first", x, 1996000, 0, 1996000, 0);
    }
}
