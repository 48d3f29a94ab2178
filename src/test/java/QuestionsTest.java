/** Promises 10 to 13 and 15 at their edges: each answer by itself, the first minute and the last. */
public final class QuestionsTest {
    public static void main(String[] args) {
        Due due = new Due();
        eachWhatIsItsOwn(due);
        balancesAreZero(due);
        balancesInEachState(due);
        sourInTheFirstMinute(due);
        sourInTheLastMinute(due);
        sourAtEveryMinute(due);
        sourIsTheFirstThatWasMore(due);
        due.end();
    }

    /** 100 gas made: 50 given to two users, 30 flared, 20 in the store. */
    private static DigesterRates mixed() {
        DigesterRates x = new DigesterRates();
        x.start(0, 1);
        x.start(1, 20);
        x.start(2, 400);
        x.start(3, 8000);
        x.rate(2, 250000);
        x.room(20);
        x.rank(1, 35);
        x.rank(0, 15);
        x.run(1);
        return x;
    }

    private static void eachWhatIsItsOwn(Due due) {
        DigesterRates x = mixed();
        due.parts("mixed", x, 1, 20, 300, 8000);
        due.same("came in", x.gone(0), 8421);
        due.gas("mixed", x, 100, 50, 30, 20);
        due.same("given(0)", x.given(0), 35);
        due.same("given(1)", x.given(1), 15);
        for (int what : new int[] {-1, 4, Integer.MIN_VALUE, Integer.MAX_VALUE}) {
            due.same("at(" + what + ")", x.at(what), -1);
        }
        for (int what : new int[] {-1, 5, Integer.MIN_VALUE, Integer.MAX_VALUE}) {
            due.same("gone(" + what + ")", x.gone(what), -1);
        }
        for (int what : new int[] {-1, 2, Integer.MIN_VALUE, Integer.MAX_VALUE}) {
            due.same("balance(" + what + ")", x.balance(what), -1);
            due.same("given(" + what + ")", x.given(what), -1);
        }
    }

    private static void balancesAreZero(Due due) {
        DigesterRates x = mixed();
        for (int minute = 1; minute <= 60; minute++) {
            due.same("balance(0) at " + minute, x.balance(0), 0);
            due.same("balance(1) at " + minute, x.balance(1), 0);
            x.rate(minute % 3, 10000 * minute);
            x.room(minute * 37 % 50);
            x.start(minute % 4, 3 * minute);
            x.run(1);
        }
    }

    private static void balancesInEachState(Due due) {
        for (State state : State.values()) {
            due.same(state + ": balance(0)", state.make().balance(0), 0);
            due.same(state + ": balance(1)", state.make().balance(1), 0);
            due.same(state + ": balance(-1)", state.make().balance(-1), -1);
            due.same(state + ": balance(2)", state.make().balance(2), -1);
        }
    }

    private static void sourInTheFirstMinute(Due due) {
        DigesterRates x = new DigesterRates();
        x.start(2, 10);
        x.run(1000);
        due.same("less", x.sour(9), 0);
        due.same("as much", x.sour(10), -1);
        due.same("more", x.sour(11), -1);
        due.same("none", x.sour(0), 0);
    }

    private static void sourInTheLastMinute(Due due) {
        DigesterRates x = new DigesterRates();
        x.kind(0, 2, 1000);
        x.feed(9998, 0, 5);
        x.feed(9999, 0, 5);
        for (int i = 0; i < 10; i++) {
            due.same("not yet", x.sour(0), -1);
            x.run(1000);
        }
        due.same("more than 4", x.sour(4), 9998);
        due.same("more than 5", x.sour(5), 9999);
        due.same("more than 9", x.sour(9), 9999);
        due.same("more than 10", x.sour(10), -1);
    }

    /** A gram more at each minute's end, by runs of many lengths. */
    private static void sourAtEveryMinute(Due due) {
        for (int length : new int[] {1, 7, 31, 63, 64, 65, 66, 100, 128, 129, 256}) {
            DigesterRates x = new DigesterRates();
            // 1000 millionths of 1500 to 1001 are 1.
            x.start(1, 1500);
            x.rate(1, 1000);
            int ran = 0;
            for (; ran + length <= 260; ran += length) {
                x.run(length);
            }
            for (int grams = 0; grams < ran; grams += grams < 135 ? 1 : 7) {
                due.same("by " + length + ", more than " + grams, x.sour(grams), grams);
            }
            due.same("by " + length + ", more than all but one", x.sour(ran - 1), ran - 1);
            due.same("by " + length + ", more than all", x.sour(ran), -1);
        }
    }

    private static void sourIsTheFirstThatWasMore(Due due) {
        DigesterRates x = new DigesterRates();
        int[] acidAtEnds = {3, 3, 7, 0, 7, 8, 1, 8, 2};
        int before = 0;
        for (int acid : acidAtEnds) {
            if (acid < before) {
                // All becomes gas, then it is filled up again in the same minute by part 1.
                x.rate(2, 1000000);
                x.rate(1, 1000000);
                x.start(1, acid);
            } else {
                x.rate(2, 0);
                x.rate(1, 0);
                x.start(2, acid - before);
            }
            x.run(1);
            due.same("acid", x.at(2), acid);
            before = acid;
        }
        int[] first = {0, 0, 0, 2, 2, 2, 2, 5, -1, -1};
        for (int grams = 0; grams < first.length; grams++) {
            due.same("sour(" + grams + ")", x.sour(grams), first[grams]);
        }
    }
}
