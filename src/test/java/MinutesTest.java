/** Promises 9 (run), 10 (at), 11 (given), 12 (gone) and 13 (balance). */
public final class MinutesTest {
    public static void main(String[] args) {
        Due due = new Due();
        runTakesItsRange(due);
        runEndsWithTheLastMinute(due);
        refusedRunChangesNothing(due);
        stepsGoByWhatWasBefore(due);
        gasGoesAlongTheMinutes(due);
        runOfManyIsManyRuns(due);
        questionsTakeTheirRange(due);
        due.end();
    }

    private static void runTakesItsRange(Due due) {
        DigesterRates x = new DigesterRates();
        for (int minutes : new int[] {-1, 0, 1001, Integer.MIN_VALUE, Integer.MAX_VALUE}) {
            due.same("run of " + minutes, x.run(minutes), -1);
        }
        due.same("run(1)", x.run(1), 1);
        due.same("run(1000)", x.run(1000), 1001);
    }

    private static void runEndsWithTheLastMinute(Due due) {
        DigesterRates x = new DigesterRates();
        for (int i = 1; i <= 9; i++) {
            due.same("run(1000)", x.run(1000), i * 1000);
        }
        due.same("run(999)", x.run(999), 9999);
        due.same("one too many", x.run(2), -1);
        due.same("the last one", x.run(1), 10000);
        due.same("no more", x.run(1), -1);
        due.same("no more, again", x.run(1000), -1);
    }

    private static void refusedRunChangesNothing(Due due) {
        DigesterRates x = new DigesterRates();
        x.start(2, 1000);
        x.rate(2, 100000);
        x.run(0);
        x.run(1001);
        due.same("nothing ran", x.at(2), 1000);
        due.same("no minute ran", x.sour(0), -1);
        due.same("minute 0 is the next one", x.run(1), 1);
        due.same("a minute ran", x.at(2), 900);
    }

    private static void stepsGoByWhatWasBefore(Due due) {
        DigesterRates x = new DigesterRates();
        x.start(0, 1000);
        x.rate(0, 1000000);
        x.rate(1, 1000000);
        x.rate(2, 1000000);
        x.run(1);
        due.parts("minute 0", x, 0, 1000, 0, 0);
        x.run(1);
        due.parts("minute 1", x, 0, 0, 1000, 0);
        due.same("no gas yet", x.gone(1), 0);
        x.run(1);
        due.parts("minute 2", x, 0, 0, 0, 0);
        due.same("all is gas", x.gone(1), 1000);
        due.same("balance(0)", x.balance(0), 0);
        due.same("balance(1)", x.balance(1), 0);
    }

    private static void gasGoesAlongTheMinutes(Due due) {
        DigesterRates x = new DigesterRates();
        x.kind(1, 2, 1000);
        x.rate(2, 1000000);
        x.room(25);
        x.rank(5, 30);
        x.feed(0, 1, 20);
        x.feed(1, 1, 100);
        x.feed(3, 1, 10);
        x.run(1);
        due.gas("minute 0: less than the need", x, 20, 20, 0, 0);
        x.run(1);
        due.gas("minute 1: more than need and room", x, 120, 50, 45, 25);
        x.run(1);
        due.gas("minute 2: out of the store", x, 120, 75, 45, 0);
        x.run(1);
        due.gas("minute 3", x, 130, 85, 45, 0);
        due.same("given(0)", x.given(0), 85);
        due.same("gone(0)", x.gone(0), 130);
        due.same("balance(1)", x.balance(1), 0);
    }

    private static DigesterRates busy() {
        DigesterRates x = new DigesterRates();
        x.kind(0, 0, 500);
        x.kind(0, 1, 250);
        x.kind(0, 2, 125);
        x.start(0, 1000000);
        x.rate(0, 1234);
        x.rate(1, 23456);
        x.rate(2, 3456);
        x.bound(400000);
        x.room(777);
        x.rank(3, 100);
        x.rank(2, 50);
        for (int i = 0; i < 20; i++) {
            x.feed(i * 17, 0, 12345 + i);
        }
        return x;
    }

    private static void runOfManyIsManyRuns(Due due) {
        DigesterRates one = busy();
        DigesterRates many = busy();
        due.same("at once", one.run(400), 400);
        for (int i = 0; i < 400; i++) {
            many.run(1);
        }
        due.parts("one by one", many, one.at(0), one.at(1), one.at(2), one.at(3));
        due.gas("one by one", many, one.gone(1), one.gone(2), one.gone(3), one.gone(4));
        for (int what = 0; what < 2; what++) {
            due.same("given", many.given(what), one.given(what));
            due.same("balance", one.balance(what), 0);
        }
        for (long grams = 0; grams < 400000; grams += 9973) {
            due.same("sour", many.sour(grams), one.sour(grams));
        }
    }

    private static void questionsTakeTheirRange(Due due) {
        DigesterRates x = busy();
        x.run(10);
        for (int what : new int[] {-1, 5, Integer.MIN_VALUE, Integer.MAX_VALUE}) {
            due.same("at", x.at(what), -1);
            due.same("given", x.given(what), -1);
            due.same("gone", x.gone(what), -1);
            due.same("balance", x.balance(what), -1);
        }
        due.same("at(4)", x.at(4), -1);
        due.same("given(2), there are two", x.given(2), -1);
        due.same("balance(2)", x.balance(2), -1);
    }
}
