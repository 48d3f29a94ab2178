/** What is full: 30 told in all (promises 4, 19), 4 users (8), minute 9999 (4, 9, 19). */
public final class FullTest {
    public static void main(String[] args) {
        Due due = new Due();
        thirtyByFeed(due);
        thirtyInOneMinute(due);
        thirtyByServe(due);
        thirtyByBoth(due);
        thirtyCountsWhatCameIn(due);
        refusedOnesDoNotCount(due);
        fourUsers(due);
        fourUsersCountNoRefusedOnes(due);
        runToTheLastMinute(due);
        runBeyondTheLastMinute(due);
        feedForTheLastMinute(due);
        serveToTheLastMinute(due);
        atTheEnd(due);
        due.end();
    }

    private static void thirtyByFeed(Due due) {
        DigesterRates x = new DigesterRates();
        for (int i = 1; i <= 30; i++) {
            due.yes("feed " + i, x.feed(i, i % 4, i));
        }
        for (int i = 31; i <= 33; i++) {
            due.no("feed " + i, x.feed(i, i % 4, i));
        }
        due.no("feed for the last minute", x.feed(9999, 3, 100000));
        x.run(31);
        due.same("all 30 came in", x.gone(0), 465);
        x.run(10);
        due.same("no 31st came in", x.gone(0), 465);
    }

    private static void thirtyInOneMinute(Due due) {
        DigesterRates x = new DigesterRates();
        for (int i = 0; i < 30; i++) {
            x.kind(i % 4, 0, 1000);
            due.yes("feed", x.feed(0, i % 4, 100000));
        }
        x.run(1);
        due.parts("30 in one minute", x, 3000000, 0, 0, 0);
    }

    /** So many told by feed, then a plan of so many loads. */
    private static void serveBeside(Due due, int fed, int loads, boolean fits) {
        DigesterRates x = new DigesterRates();
        for (int kind = 0; kind < 4; kind++) {
            x.load(kind, 10, 1, 1);
        }
        for (int i = 0; i < fed; i++) {
            x.feed(100, 0, 1);
        }
        String when = loads + " beside " + fed;
        due.same(when + ": plan", x.plan(loads), loads);
        due.same(when + ": serve", x.serve(), fits ? loads : -1);
        int left = fits ? 30 - fed - loads : 30 - fed;
        for (int i = 0; i < left; i++) {
            due.yes(when + ": feed of what is left", x.feed(100, 0, 1));
        }
        due.no(when + ": one more", x.feed(100, 0, 1));
        x.run(200);
        due.same(when + ": came in", x.gone(0), fits ? 10 * loads + 30 - loads : 30);
    }

    private static void thirtyByServe(Due due) {
        serveBeside(due, 0, 0, true);
        serveBeside(due, 0, 1, true);
        serveBeside(due, 0, 29, true);
        serveBeside(due, 0, 30, true);
        serveBeside(due, 0, 31, false);
        serveBeside(due, 0, 36, false);
    }

    private static void thirtyByBoth(Due due) {
        serveBeside(due, 1, 28, true);
        serveBeside(due, 1, 29, true);
        serveBeside(due, 1, 30, false);
        serveBeside(due, 20, 9, true);
        serveBeside(due, 20, 10, true);
        serveBeside(due, 20, 11, false);
        serveBeside(due, 29, 0, true);
        serveBeside(due, 29, 1, true);
        serveBeside(due, 29, 2, false);
        serveBeside(due, 30, 0, true);
        serveBeside(due, 30, 1, false);
    }

    /** "in all": also what came in long ago. */
    private static void thirtyCountsWhatCameIn(Due due) {
        DigesterRates x = new DigesterRates();
        x.load(2, 1, 1, 1);
        x.plan(9);
        for (int i = 0; i < 3; i++) {
            due.same("serve, " + i, x.serve(), 9);
            x.run(20);
        }
        due.same("27 came in", x.gone(0), 27);
        due.same("serve to 36", x.serve(), -1);
        x.plan(4);
        due.same("serve to 31", x.serve(), -1);
        x.plan(3);
        due.same("serve to 30", x.serve(), 3);
        due.no("feed beyond", x.feed(500, 0, 1));
        x.run(20);
        due.same("30 came in", x.gone(0), 30);
        due.no("feed beyond, when all came in", x.feed(500, 0, 1));
        due.same("serve beyond, when all came in", x.serve(), -1);
    }

    private static void refusedOnesDoNotCount(Due due) {
        DigesterRates x = new DigesterRates();
        x.run(1);
        for (int i = 0; i < 30; i++) {
            due.no("a minute that ran", x.feed(0, 0, 1));
            due.no("a minute beyond", x.feed(10000, 0, 1));
            due.no("no kind", x.feed(1, 4, 1));
            due.no("no grams", x.feed(1, 0, 0));
            due.no("too many grams", x.feed(1, 0, 100001));
            due.same("no plan", x.serve(), -1);
            due.yes("such", x.feed(1, 0, 1));
        }
        due.no("the 31st", x.feed(1, 0, 1));
    }

    private static void fourUsers(Due due) {
        DigesterRates x = new DigesterRates();
        for (int user = 0; user < 4; user++) {
            due.same("user " + user, x.rank(9 - user, 10), user);
        }
        due.same("a fifth", x.rank(0, 10), -1);
        due.same("a fifth of rank 9", x.rank(9, 0), -1);
        due.same("a fifth of the greatest need", x.rank(0, 1000000), -1);
        due.same("given to a fifth", x.given(4), -1);
        x.start(2, 25);
        x.rate(2, 1000000);
        x.run(1);
        due.same("rank 9", x.given(0), 0);
        due.same("rank 8", x.given(1), 5);
        due.same("rank 7", x.given(2), 10);
        due.same("rank 6", x.given(3), 10);
        due.gas("four", x, 25, 25, 0, 0);
    }

    private static void fourUsersCountNoRefusedOnes(Due due) {
        DigesterRates x = new DigesterRates();
        for (int user = 0; user < 4; user++) {
            due.same("rank below", x.rank(-1, 1), -1);
            due.same("rank beyond", x.rank(10, 1), -1);
            due.same("need below", x.rank(0, -1), -1);
            due.same("need beyond", x.rank(0, 1000001), -1);
            due.same("given to it", x.given(user), -1);
            due.same("user " + user, x.rank(0, 1), user);
        }
        due.same("a fifth", x.rank(0, 1), -1);
    }

    /** An object whose next minute is so many. */
    private static DigesterRates at(int next) {
        DigesterRates x = new DigesterRates();
        int left = next;
        while (left > 0) {
            int now = Math.min(left, 1000);
            x.run(now);
            left -= now;
        }
        return x;
    }

    private static void runToTheLastMinute(Due due) {
        due.same("9000 and 999", at(9000).run(999), 9999);
        due.same("9000 and 1000", at(9000).run(1000), 10000);
        due.same("9001 and 999", at(9001).run(999), 10000);
        due.same("9001 and 998", at(9001).run(998), 9999);
        due.same("9998 and 1", at(9998).run(1), 9999);
        due.same("9998 and 2", at(9998).run(2), 10000);
        due.same("9999 and 1", at(9999).run(1), 10000);
    }

    private static void runBeyondTheLastMinute(Due due) {
        int[][] rows = {{9001, 1000}, {9002, 999}, {9500, 501}, {9998, 3}, {9999, 2}, {9999, 1000}, {10000, 1},
            {10000, 2}, {10000, 1000}, {9999, Integer.MAX_VALUE}, {10000, Integer.MAX_VALUE},
            {9999, Integer.MIN_VALUE}, {10000, Integer.MIN_VALUE}, {10000, 0}, {10000, -1}};
        for (int[] row : rows) {
            DigesterRates x = at(row[0]);
            due.same(row[0] + " and " + row[1], x.run(row[1]), -1);
            // Not even the minutes that are left have run.
            int left = 10000 - row[0];
            if (left > 0) {
                due.same(row[0] + " and " + row[1] + ", then what is left", x.run(left), 10000);
            }
        }
    }

    private static void feedForTheLastMinute(Due due) {
        DigesterRates x = at(9998);
        due.no("9997 ran", x.feed(9997, 0, 1));
        due.yes("9998 is next", x.feed(9998, 0, 1));
        due.yes("9999 is the last", x.feed(9999, 0, 10));
        due.no("10000 never runs", x.feed(10000, 0, 100));
        x.run(1);
        due.same("9998 came in", x.gone(0), 1);
        due.no("9998 ran", x.feed(9998, 0, 1));
        due.yes("9999 is next", x.feed(9999, 0, 10));
        x.run(1);
        due.same("9999 came in", x.gone(0), 21);
        due.no("9999 ran", x.feed(9999, 0, 10));
        due.no("10000 is next and never runs", x.feed(10000, 0, 100));
    }

    private static void serveToTheLastMinute(Due due) {
        int[][] rows = {{9997, 2, 2}, {9997, 3, 3}, {9997, 4, -1}, {9998, 2, 2}, {9998, 3, -1}, {9999, 0, 0},
            {9999, 1, 1}, {9999, 2, -1}, {9970, 30, 30}, {9971, 30, -1}, {10000, 1, -1}, {10000, 0, 0}};
        for (int[] row : rows) {
            DigesterRates x = at(row[0]);
            for (int kind = 0; kind < 4; kind++) {
                x.load(kind, 7, 1, 1);
            }
            x.plan(row[1]);
            String when = row[1] + " loads at " + row[0];
            due.same(when, x.serve(), row[2]);
            if (row[0] < 10000) {
                x.run(10000 - row[0]);
            }
            due.same(when + ": came in", x.gone(0), Math.max(0, 7 * row[2]));
        }
    }

    /** No minute runs any more; all else goes on. */
    private static void atTheEnd(Due due) {
        DigesterRates x = at(10000);
        due.yes("start", x.start(2, 1000));
        due.same("it is there", x.at(2), 1000);
        due.same("sourness", x.acid(), 1000);
        due.same("it was not at a minute's end", x.sour(0), -1);
        due.yes("kind", x.kind(0, 0, 1000));
        due.yes("rate", x.rate(2, 1000000));
        due.yes("bound", x.bound(1));
        due.yes("room", x.room(1));
        due.same("rank", x.rank(0, 1), 0);
        due.yes("load", x.load(0, 1, 1, 1));
        due.same("plan", x.plan(1), 1);
        due.same("serve", x.serve(), -1);
        due.same("run", x.run(1), -1);
        due.same("no gas", x.gone(1), 0);
    }
}
