/** Promises 2 to 13 and 15 to 18: which numbers are such, at each edge, inside of it and beyond it. */
public final class RangesTest {
    private static final int NEXT_MINUTE = 10;
    private static final int USERS = 2;

    public static void main(String[] args) {
        Due due = new Due();
        numbersThatAreSuch(due);
        numbersThatAreNot(due);
        answersOfThoseThatAreSuch(due);
        usersThatThereAre(due);
        gramsOfSour(due);
        minutesOfFeedGoByTheNextOne(due);
        due.end();
    }

    /** Nothing stands in the way of a call here but its own numbers. */
    private static DigesterRates ready() {
        DigesterRates x = new DigesterRates();
        x.start(2, 5);
        x.run(NEXT_MINUTE);
        for (int user = 0; user < USERS; user++) {
            x.rank(user, 1);
        }
        for (int kind = 0; kind < 4; kind++) {
            x.load(kind, 1, 1, 100000);
        }
        x.plan(1);
        return x;
    }

    private static void numbersThatAreSuch(Due due) {
        for (Ranges ranges : Ranges.all(NEXT_MINUTE, USERS)) {
            for (Call call : ranges.inside()) {
                due.no(call + " was refused", call.on(ready()) == call.refusal());
            }
        }
    }

    private static void numbersThatAreNot(Due due) {
        for (Ranges ranges : Ranges.all(NEXT_MINUTE, USERS)) {
            for (Call call : ranges.beyond()) {
                due.same(call.toString(), call.on(ready()), call.refusal());
            }
        }
        for (Ranges ranges : Ranges.all(0, 0)) {
            for (Call call : ranges.beyond()) {
                due.same("new: " + call, call.on(new DigesterRates()), call.refusal());
            }
        }
    }

    private static void answersOfThoseThatAreSuch(Due due) {
        due.same("run(1)", ready().run(1), NEXT_MINUTE + 1);
        due.same("run(2)", ready().run(2), NEXT_MINUTE + 2);
        due.same("run(999)", ready().run(999), NEXT_MINUTE + 999);
        due.same("run(1000)", ready().run(1000), NEXT_MINUTE + 1000);
        due.same("rank(0, 0)", ready().rank(0, 0), USERS);
        due.same("rank(9, 1000000)", ready().rank(9, 1000000), USERS);
        due.same("at(0)", ready().at(0), 0);
        due.same("at(2)", ready().at(2), 5);
        due.same("at(3)", ready().at(3), 0);
        due.same("gone(0)", ready().gone(0), 5);
        due.same("gone(4)", ready().gone(4), 0);
        due.same("balance(0)", ready().balance(0), 0);
        due.same("balance(1)", ready().balance(1), 0);
        due.same("plan(0)", ready().plan(0), 0);
        due.same("plan(999999)", ready().plan(999999), 10);
        due.same("plan(1000000)", ready().plan(1000000), 10);
        due.same("planned(0)", ready().planned(0), 0);
        due.same("planned(3)", ready().planned(3), 1);
    }

    private static void usersThatThereAre(Due due) {
        DigesterRates x = new DigesterRates();
        for (int users = 0; users <= 4; users++) {
            for (int user = 0; user < 4; user++) {
                due.same("given(" + user + ") of " + users, x.given(user), user < users ? 0 : -1);
            }
            for (int user : new int[] {-1, 4, 5, Integer.MIN_VALUE, Integer.MAX_VALUE}) {
                due.same("given(" + user + ") of " + users, x.given(user), -1);
            }
            x.rank(3, 1);
        }
    }

    /** "so many grams, 0 or more; NONE when there was none, or these are below 0". */
    private static void gramsOfSour(Due due) {
        DigesterRates x = new DigesterRates();
        due.same("none ran: sour(0)", x.sour(0), -1);
        x.run(1);
        due.same("no acid: sour(0)", x.sour(0), -1);
        x.start(2, 1);
        due.same("not at a minute's end: sour(0)", x.sour(0), -1);
        x.run(1);
        due.same("1 gram: sour(0)", x.sour(0), 1);
        due.same("1 gram: sour(1)", x.sour(1), -1);
        due.same("1 gram: sour(-1)", x.sour(-1), -1);
        due.same("1 gram: sour(-2)", x.sour(-2), -1);
        x.start(2, 1);
        x.run(1);
        due.same("2 grams: sour(0)", x.sour(0), 1);
        due.same("2 grams: sour(1)", x.sour(1), 2);
        due.same("2 grams: sour(2)", x.sour(2), -1);
        // Whoever makes an int of these finds a small number, or one below 0.
        for (long grams : new long[] {Integer.MAX_VALUE, 1L << 31, 1L << 32, (1L << 32) + 1, -1L << 32,
            Integer.MIN_VALUE, Long.MAX_VALUE, Long.MAX_VALUE - 1, Long.MIN_VALUE, Long.MIN_VALUE + 1}) {
            due.same("sour(" + grams + ")", x.sour(grams), -1);
        }
    }

    /** "for a minute that is to run, 0 .. 9999". */
    private static void minutesOfFeedGoByTheNextOne(Due due) {
        int[] least = {Integer.MIN_VALUE, -1};
        DigesterRates x = new DigesterRates();
        for (int next : new int[] {0, 1, 2, 1002, 2002}) {
            for (int minute : least) {
                due.no("feed for " + minute + " at " + next, x.feed(minute, 0, 1));
            }
            due.no("feed for one that ran, at " + next, x.feed(next - 1, 0, 1));
            due.yes("feed for the next one, at " + next, x.feed(next, 0, 1));
            due.yes("feed for the one behind it, at " + next, x.feed(next + 1, 0, 1));
            due.yes("feed for 9998, at " + next, x.feed(9998, 0, 1));
            due.yes("feed for 9999, at " + next, x.feed(9999, 0, 1));
            due.no("feed for 10000, at " + next, x.feed(10000, 0, 1));
            due.no("feed for the greatest, at " + next, x.feed(Integer.MAX_VALUE, 0, 1));
            x.run(next < 2 ? 1 : 1000);
        }
        due.same("all that was taken and was for one that ran came in", x.gone(0), 10);
    }
}
