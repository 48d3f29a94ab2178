/** Promises 5 (rate), 6 (bound), 7 (room) and 8 (rank). */
public final class SettingsTest {
    public static void main(String[] args) {
        Due due = new Due();
        rateTakesItsRange(due);
        ratesAreOfTheirSteps(due);
        refusedSettingsChangeNothing(due);
        boundTakesItsRange(due);
        boundSlows(due);
        roomTakesItsRange(due);
        roomIsKeptAtTheMinutesEnd(due);
        rankTakesItsRange(due);
        usersTakeByRanks(due);
        userWithoutNeed(due);
        due.end();
    }

    private static void rateTakesItsRange(Due due) {
        DigesterRates x = new DigesterRates();
        for (int k : new int[] {-1, 3, Integer.MIN_VALUE, Integer.MAX_VALUE}) {
            due.no("rate of step " + k, x.rate(k, 1));
        }
        for (int millionths : new int[] {-1, 1000001, Integer.MIN_VALUE, Integer.MAX_VALUE}) {
            due.no("rate of " + millionths, x.rate(0, millionths));
        }
        for (int k = 0; k < 3; k++) {
            due.yes("rate 0", x.rate(k, 0));
            due.yes("rate 1000000", x.rate(k, 1000000));
        }
    }

    private static DigesterRates started(int each) {
        DigesterRates x = new DigesterRates();
        for (int part = 0; part < 4; part++) {
            x.start(part, each);
        }
        return x;
    }

    private static void ratesAreOfTheirSteps(Due due) {
        DigesterRates x = started(1000);
        x.rate(0, 100000);
        x.run(1);
        due.parts("step 0", x, 900, 1100, 1000, 1000);
        x = started(1000);
        x.rate(1, 200000);
        x.run(1);
        due.parts("step 1", x, 1000, 800, 1200, 1000);
        x = started(1000);
        x.rate(2, 300000);
        x.run(1);
        due.parts("step 2", x, 1000, 1000, 700, 1000);
        due.same("gas of step 2", x.gone(1), 300);
        x.rate(2, 0);
        x.run(1);
        due.same("no rate again", x.gone(1), 300);
        x = started(1000);
        x.rate(0, 999);
        x.run(1);
        due.parts("less than a gram", x, 1000, 1000, 1000, 1000);
        x.rate(0, 1000);
        x.run(1);
        due.parts("a gram", x, 999, 1001, 1000, 1000);
        x.rate(0, 1000000);
        x.rate(1, 1000000);
        x.rate(2, 1000000);
        x.run(1);
        due.parts("all of each", x, 0, 999, 1001, 1000);
    }

    private static void refusedSettingsChangeNothing(Due due) {
        DigesterRates x = started(1000);
        x.rate(2, 100000);
        x.bound(2000);
        x.room(10);
        x.rate(2, -1);
        x.rate(2, 1000001);
        x.bound(0);
        x.bound(1000000001);
        x.room(-1);
        x.room(1000000001);
        x.run(1);
        due.parts("settings kept", x, 1000, 1000, 950, 1000);
        due.gas("settings kept", x, 50, 0, 40, 10);
    }

    private static void boundTakesItsRange(Due due) {
        DigesterRates x = new DigesterRates();
        for (int grams : new int[] {-1, 0, 1000000001, Integer.MIN_VALUE, Integer.MAX_VALUE}) {
            due.no("bound of " + grams, x.bound(grams));
        }
        due.yes("bound of 1", x.bound(1));
        due.yes("bound of 1000000000", x.bound(1000000000));
    }

    /** What step 0 moves of 1000 grams in a minute. */
    private static long moved(int acid, int bound) {
        DigesterRates x = new DigesterRates();
        x.start(0, 1000);
        x.start(2, acid);
        x.rate(0, 1000000);
        x.bound(bound);
        x.run(1);
        return 1000 - x.at(0);
    }

    private static void boundSlows(Due due) {
        due.same("no acid", moved(0, 1), 1000);
        due.same("half the bound", moved(500, 1000), 500);
        due.same("a third, down", moved(1, 3), 667);
        due.same("two thirds, down", moved(2, 3), 334);
        due.same("just below a thousandth", moved(9, 10000), 1000);
        due.same("a thousandth", moved(10, 10000), 999);
        due.same("just below the bound", moved(999, 1000), 1);
        due.same("the bound", moved(1000, 1000), 0);
        due.same("above the bound", moved(1001, 1000), 0);
        due.same("far above the bound", moved(1000000, 1), 0);
        // 50 % of 3 grams, down, is 1 gram; 50 % of that, down, is none.
        DigesterRates x = new DigesterRates();
        x.start(1, 7);
        x.start(2, 1);
        x.bound(2);
        x.rate(1, 500000);
        x.run(1);
        due.parts("twice down: 500 thousandths of 3", x, 0, 6, 2, 0);
        x = new DigesterRates();
        x.kind(0, 2, 1000);
        x.start(0, 1000);
        x.rate(0, 1000000);
        x.bound(100);
        x.feed(0, 0, 50);
        x.run(1);
        due.same("the acid that comes in slows at once", x.at(0), 500);
    }

    private static void roomTakesItsRange(Due due) {
        DigesterRates x = new DigesterRates();
        for (int v : new int[] {-1, 1000000001, Integer.MIN_VALUE, Integer.MAX_VALUE}) {
            due.no("room of " + v, x.room(v));
        }
        due.yes("room of 0", x.room(0));
        due.yes("room of 1000000000", x.room(1000000000));
    }

    private static void roomIsKeptAtTheMinutesEnd(Due due) {
        DigesterRates x = new DigesterRates();
        x.start(2, 1000);
        x.rate(2, 1000000);
        x.room(1000);
        x.run(1);
        due.gas("just the room", x, 1000, 0, 0, 1000);
        due.yes("less room", x.room(400));
        due.gas("nothing is flared between minutes", x, 1000, 0, 0, 1000);
        x.run(1);
        due.gas("at the next end", x, 1000, 0, 600, 400);
        x.rank(0, 50);
        x.room(350);
        x.run(1);
        due.gas("users come before the flare", x, 1000, 50, 600, 350);
    }

    private static void rankTakesItsRange(Due due) {
        DigesterRates x = new DigesterRates();
        for (int r : new int[] {-1, 10, Integer.MIN_VALUE, Integer.MAX_VALUE}) {
            due.same("rank " + r, x.rank(r, 1), -1);
        }
        for (int need : new int[] {-1, 1000001, Integer.MIN_VALUE, Integer.MAX_VALUE}) {
            due.same("need " + need, x.rank(0, need), -1);
        }
        due.same("no user yet", x.given(0), -1);
        due.same("user 0", x.rank(9, 1000000), 0);
        due.same("user 1", x.rank(0, 0), 1);
        due.same("user 2", x.rank(9, 1), 2);
        due.same("user 3", x.rank(4, 1), 3);
        due.same("no fifth", x.rank(0, 1), -1);
        due.same("no fifth's gas", x.given(4), -1);
    }

    private static void given(Due due, String when, DigesterRates x, long a, long b, long c, long d) {
        due.same(when + ": given(0)", x.given(0), a);
        due.same(when + ": given(1)", x.given(1), b);
        due.same(when + ": given(2)", x.given(2), c);
        due.same(when + ": given(3)", x.given(3), d);
    }

    private static DigesterRates withGas(int gas) {
        DigesterRates x = new DigesterRates();
        x.start(2, gas);
        x.rate(2, 1000000);
        return x;
    }

    private static void usersTakeByRanks(Due due) {
        DigesterRates x = withGas(100);
        x.rank(3, 40);
        x.rank(1, 30);
        x.rank(3, 20);
        x.rank(2, 25);
        x.run(1);
        given(due, "ranks 3 1 3 2", x, 40, 30, 5, 25);
        x = withGas(100);
        x.rank(3, 60);
        x.rank(3, 60);
        x.rank(3, 60);
        x.rank(0, 10);
        x.run(1);
        given(due, "ranks 3 3 3 0", x, 60, 30, 0, 10);
        x = withGas(100);
        x.rank(0, 10);
        x.rank(1, 20);
        x.rank(2, 30);
        x.rank(3, 60);
        x.run(1);
        given(due, "ranks 0 1 2 3", x, 10, 20, 30, 40);
        x = withGas(100);
        x.rank(9, 60);
        x.rank(8, 30);
        x.rank(7, 20);
        x.rank(6, 10);
        x.run(1);
        given(due, "ranks 9 8 7 6", x, 40, 30, 20, 10);
        due.gas("all given", x, 100, 100, 0, 0);
        x = withGas(100);
        x.rank(2, 60);
        x.rank(5, 60);
        x.rank(3, 30);
        x.rank(2, 5);
        x.run(1);
        given(due, "ranks 2 5 3 2", x, 60, 5, 30, 5);
    }

    private static void userWithoutNeed(Due due) {
        DigesterRates x = withGas(100);
        x.room(1000);
        x.rank(0, 0);
        x.run(1);
        due.same("it takes none", x.given(0), 0);
        x.rank(0, 30);
        x.run(4);
        due.same("it takes from the store, and what is left", x.given(1), 100);
        due.gas("the store is empty", x, 100, 100, 0, 0);
    }
}
