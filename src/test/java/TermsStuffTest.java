/** The edges that "Terms" name of stuff and of its breaking down: shares, rounding, slowing. */
public final class TermsStuffTest {
    private static final int MOST_STARTS = 480;

    public static void main(String[] args) {
        Due due = new Due();
        togetherThousandAtMost(due);
        togetherIsOfThePartsAsTheyAreThen(due);
        whatSharesLackIsPartThree(due);
        aKindIsAllPartThreeAtFirst(due);
        thousandthsGoDown(due);
        partThreeIsWhatIsLeft(due);
        millionthsGoDown(due);
        downTwice(due);
        slowingGoesDown(due);
        slowingIsZeroAtLeast(due);
        slowingBoundAtFirst(due);
        slowingIsByWhatThereIsThen(due);
        stepsGoByPartsAsTheyWereBefore(due);
        muchOfEachPart(due);
        due.end();
    }

    /** "together 1000 at most": 999, 1000 and 1001, whichever part is told last. */
    private static void togetherThousandAtMost(Due due) {
        for (int kind = 0; kind < 4; kind++) {
            for (int last = 0; last < 3; last++) {
                togetherWithOthers(due, kind, last, 0, 0);
                togetherWithOthers(due, kind, last, 1, 0);
                togetherWithOthers(due, kind, last, 0, 1);
                togetherWithOthers(due, kind, last, 450, 300);
                togetherWithOthers(due, kind, last, 500, 499);
                togetherWithOthers(due, kind, last, 0, 1000);
                togetherWithOthers(due, kind, last, 1000, 0);
            }
        }
    }

    private static void togetherWithOthers(Due due, int kind, int last, int a, int b) {
        DigesterRates x = new DigesterRates();
        String when = "kind " + kind + ", part " + last + " beside " + a + " and " + b;
        x.kind(kind, (last + 1) % 3, a);
        x.kind(kind, (last + 2) % 3, b);
        int left = 1000 - a - b;
        if (left > 0) {
            due.yes(when + ": 999", x.kind(kind, last, left - 1));
        }
        due.no(when + ": 1001", x.kind(kind, last, left + 1));
        due.yes(when + ": 1000", x.kind(kind, last, left));
        due.no(when + ": 1001 after 1000", x.kind(kind, last, left + 1));
        due.no(when + ": the most that is such", left < 1000 && x.kind(kind, last, 1000));
        due.no(when + ": the most that there is", x.kind(kind, last, Integer.MAX_VALUE));
        due.yes(when + ": 1000 again", x.kind(kind, last, left));
        x.feed(0, kind, 1000);
        x.run(1);
        due.same(when + ": its share", x.at(last), left);
        due.same(when + ": nothing is left", x.at(3), 0);
    }

    /** The share that a call replaces does not count, and other kinds don't. */
    private static void togetherIsOfThePartsAsTheyAreThen(Due due) {
        DigesterRates x = new DigesterRates();
        due.yes("part 0 all", x.kind(0, 0, 1000));
        due.yes("kind 1 all", x.kind(1, 0, 1000));
        due.yes("part 0 one less", x.kind(0, 0, 999));
        due.yes("part 1 gets it", x.kind(0, 1, 1));
        due.no("part 2 gets none", x.kind(0, 2, 1));
        due.yes("part 2 gets 0", x.kind(0, 2, 0));
        due.no("part 0 can't have it back", x.kind(0, 0, 1000));
        due.yes("part 1 gives it back", x.kind(0, 1, 0));
        due.yes("part 0 has it back", x.kind(0, 0, 1000));
    }

    private static void whatSharesLackIsPartThree(Due due) {
        int[] together = {0, 1, 2, 500, 998, 999, 1000};
        for (int share : together) {
            DigesterRates x = new DigesterRates();
            x.kind(2, 0, share / 2);
            x.kind(2, 1, share - share / 2);
            x.feed(0, 2, 1000);
            x.run(1);
            due.parts("together " + share, x, share / 2, share - share / 2, 0, 1000 - share);
        }
    }

    private static void aKindIsAllPartThreeAtFirst(Due due) {
        for (int kind = 0; kind < 4; kind++) {
            DigesterRates x = new DigesterRates();
            x.feed(0, kind, 1);
            x.feed(1, kind, 100000);
            x.run(1);
            due.parts("the least of kind " + kind, x, 0, 0, 0, 1);
            x.run(1);
            due.parts("the most of kind " + kind, x, 0, 0, 0, 100001);
        }
    }

    /** Share, grams, and what comes in of that part. */
    private static final int[][] THOUSANDTHS = {
        {0, 1, 0}, {0, 100000, 0}, {1, 1, 0}, {1, 999, 0}, {1, 1000, 1}, {1, 1001, 1}, {1, 1999, 1}, {1, 2000, 2},
        {1, 99999, 99}, {1, 100000, 100}, {500, 1, 0}, {500, 2, 1}, {500, 3, 1}, {333, 3, 0}, {333, 4, 1},
        {334, 3, 1}, {999, 1, 0}, {999, 2, 1}, {999, 999, 998}, {999, 1000, 999}, {999, 1001, 999},
        {999, 1002, 1000}, {999, 99999, 99899}, {999, 100000, 99900}, {1000, 1, 1}, {1000, 999, 999},
        {1000, 99999, 99999}, {1000, 100000, 100000}};

    private static void thousandthsGoDown(Due due) {
        for (int[] row : THOUSANDTHS) {
            for (int part = 0; part < 3; part++) {
                DigesterRates x = new DigesterRates();
                x.kind(3, part, row[0]);
                x.feed(0, 3, row[1]);
                x.run(1);
                String when = row[0] + " thousandths of " + row[1] + ", part " + part;
                due.same(when, x.at(part), row[2]);
                due.same(when + ": the rest", x.at(3), row[1] - row[2]);
                due.same(when + ": all", x.gone(0), row[1]);
            }
        }
    }

    /** "of part 3 what is left of g": also what parts 0 to 2 lose by going down. */
    private static void partThreeIsWhatIsLeft(Due due) {
        int[][] rows = {{1, 0, 0, 0, 1}, {2, 0, 0, 0, 2}, {3, 0, 0, 1, 2}, {4, 1, 1, 1, 1}, {999, 332, 332, 333, 2},
            {1000, 333, 333, 334, 0}, {1001, 333, 333, 334, 1}, {100000, 33300, 33300, 33400, 0}};
        for (int[] row : rows) {
            DigesterRates x = new DigesterRates();
            x.kind(0, 0, 333);
            x.kind(0, 1, 333);
            x.kind(0, 2, 334);
            x.feed(0, 0, row[0]);
            x.run(1);
            due.parts(row[0] + " grams", x, row[1], row[2], row[3], row[4]);
        }
    }

    private static DigesterRates with(int part, long grams) {
        DigesterRates x = new DigesterRates();
        long left = grams;
        while (left > 0) {
            int now = (int) Math.min(left, 1000000);
            x.start(part, now);
            left -= now;
        }
        return x;
    }

    /** Rate, grams, and what goes of them. */
    private static final int[][] MILLIONTHS = {
        {0, 1000000, 0}, {1, 1, 0}, {1, 999999, 0}, {1, 1000000, 1}, {1, 1000001, 1}, {1, 1999999, 1},
        {1, 2000000, 2}, {500000, 1, 0}, {500000, 2, 1}, {500000, 3, 1}, {333333, 3, 0}, {333334, 3, 1},
        {999999, 1, 0}, {999999, 2, 1}, {999999, 999999, 999998}, {999999, 1000000, 999999},
        {999999, 1000001, 999999}, {999999, 1000002, 1000000}, {1000000, 1, 1}, {1000000, 999999, 999999},
        {1000000, 1000001, 1000001}, {1000000, 480000000, 480000000}, {999999, 480000000, 479999520}};

    private static void millionthsGoDown(Due due) {
        for (int[] row : MILLIONTHS) {
            for (int step = 0; step < 2; step++) {
                DigesterRates x = with(step, row[1]);
                x.rate(step, row[0]);
                x.run(1);
                String when = row[0] + " millionths of " + row[1] + ", step " + step;
                due.same(when, x.at(step), row[1] - row[2]);
                due.same(when + ": to the next part", x.at(step + 1), row[2]);
            }
        }
        // Of step 2 with less than a million, or the acid would slow itself.
        for (int[] row : new int[][] {{1, 999999, 0}, {2, 499999, 0}, {2, 500000, 1}, {999999, 1, 0},
            {999999, 2, 1}, {999999, 999999, 999998}, {1000000, 1, 1}, {1000000, 999999, 999999}}) {
            DigesterRates x = with(2, row[1]);
            x.rate(2, row[0]);
            x.run(1);
            String when = row[0] + " millionths of " + row[1] + ", step 2";
            due.same(when, x.at(2), row[1] - row[2]);
            due.same(when + ": gas", x.gone(1), row[2]);
        }
    }

    /** "s thousandths of r0 millionths of part 0": first the millionths go down, then the thousandths. */
    private static void downTwice(Due due) {
        // s is 999. Of 1.9 grams the millionths are 1, and 999 thousandths of 1 are 0; of 1.9 they were 1.
        due.same("1.9 grams", moved(due, 19, 100000, 1, 1000), 0);
        due.same("2 grams", moved(due, 20, 100000, 1, 1000), 1);
        // s is 500: half of 3 is 1, and half of 4 is 2.
        due.same("3.9 grams by half", moved(due, 39, 100000, 500, 1000), 1);
        due.same("4 grams by half", moved(due, 40, 100000, 500, 1000), 2);
        // s is 999, and of 999 grams 1002 millionths were 1; but they are of 1000, and 999 thousandths of 1 are 0.
        due.same("the millionths first", moved(due, 1000, 1002, 1, 1000), 0);
        // s is 1: 1000 grams are needed.
        due.same("999.9 grams by 1", moved(due, 9999, 100000, 999, 1000), 0);
        due.same("1000 grams by 1", moved(due, 10000, 100000, 999, 1000), 1);
    }

    /** What step 0 moves of so many grams, with so much acid at a bound. */
    private static long moved(Due due, int grams, int rate, int acid, int bound) {
        DigesterRates x = new DigesterRates();
        x.start(0, grams);
        x.start(2, acid);
        x.rate(0, rate);
        x.bound(bound);
        x.run(1);
        due.same("no grams get lost", x.at(0) + x.at(1), grams);
        return x.at(1);
    }

    /** Acid, bound, s: "1000 less 1000 times part 2 over b, down". */
    private static void slowingGoesDown(Due due) {
        int[][] rows = {{0, 1, 1000}, {0, 1000000000, 1000}, {1, 1000000000, 1000}, {999999, 1000000000, 1000},
            {1000000, 1000000000, 999}, {1, 1001, 1000}, {1, 1000, 999}, {1, 999, 999}, {2, 1001, 999},
            {2, 1000, 998}, {1, 3, 667}, {2, 3, 334}, {1, 2, 500}, {999, 1000, 1}, {9990, 10000, 1},
            {9989, 10000, 2}, {9991, 10000, 1}, {9999, 10000, 1}, {999999, 1000000, 1}};
        for (int[] row : rows) {
            due.same("s of " + row[0] + " over " + row[1], moved(due, 1000, 1000000, row[0], row[1]), row[2]);
        }
    }

    /** ".. 0 at least": as much acid as the bound, one more, and much more. */
    private static void slowingIsZeroAtLeast(Due due) {
        int[][] rows = {{1, 1}, {2, 1}, {1000000, 1}, {1000, 1000}, {1001, 1000}, {1002, 1000}, {2000, 1000},
            {3, 3}, {4, 3}, {1000000, 1000000}, {1000000, 999999}, {1000000, 7}};
        for (int[] row : rows) {
            due.same("s of " + row[0] + " over " + row[1], moved(due, 1000, 1000000, row[0], row[1]), 0);
        }
        // 1000 times these, over 1, would be below 0 or small in an int.
        for (int acid : new int[] {2147484, 4294967, 4294968, 8589935, 430000000, MOST_STARTS * 1000000}) {
            DigesterRates x = with(2, acid);
            x.start(0, 1000);
            x.rate(0, 1000000);
            x.rate(2, 1000000);
            x.bound(1);
            x.run(1);
            due.parts("s of " + acid + " over 1", x, 1000, 0, acid, 0);
            due.same("gas with " + acid + " over 1", x.gone(1), 0);
        }
    }

    private static void slowingBoundAtFirst(Due due) {
        int[][] rows = {{999999, 1000}, {1000000, 999}, {1999999, 999}, {2000000, 998}};
        for (int[] row : rows) {
            DigesterRates x = with(2, row[0]);
            x.start(0, 1000);
            x.rate(0, 1000000);
            x.run(1);
            due.same("s of " + row[0] + " at first", x.at(1), row[1]);
        }
        // With so much acid s is 500 already if the bound is less by two.
        DigesterRates x = with(2, 499999999);
        x.start(0, 1000);
        x.rate(0, 1000000);
        x.run(1);
        due.same("s of 499999999 at first", x.at(1), 501);
    }

    /** Stuff that comes in counts to s; what becomes acid in the minute does not. */
    private static void slowingIsByWhatThereIsThen(Due due) {
        DigesterRates x = new DigesterRates();
        x.kind(0, 2, 1000);
        x.start(0, 1000);
        x.start(1, 1000);
        x.rate(0, 1000000);
        x.bound(1000);
        x.feed(0, 0, 400);
        x.run(1);
        due.parts("s is 600", x, 400, 1600, 400, 0);
        DigesterRates y = new DigesterRates();
        y.start(0, 1000);
        y.start(1, 1000);
        y.rate(0, 1000000);
        y.rate(1, 1000000);
        y.bound(1000);
        y.run(1);
        due.parts("s is 1000, though all of part 1 is acid then", y, 0, 1000, 1000, 0);
        y.start(0, 1000);
        y.run(1);
        due.parts("s is 0 in the minute after", y, 1000, 1000, 1000, 0);
        DigesterRates z = new DigesterRates();
        for (int part = 0; part < 3; part++) {
            z.start(part, 500);
            z.rate(part, 1000000);
        }
        z.bound(1000);
        z.run(1);
        due.parts("s is 500 for all three steps", z, 250, 500, 500, 0);
        due.same("s is 500 for the gas", z.gone(1), 250);
    }

    private static void stepsGoByPartsAsTheyWereBefore(Due due) {
        DigesterRates x = new DigesterRates();
        x.start(0, 100);
        for (int k = 0; k < 3; k++) {
            x.rate(k, 1000000);
        }
        x.run(1);
        due.parts("one step a minute", x, 0, 100, 0, 0);
        x.run(1);
        due.parts("the next step", x, 0, 0, 100, 0);
        due.same("no gas yet", x.gone(1), 0);
        x.run(1);
        due.parts("the last step", x, 0, 0, 0, 0);
        due.same("gas", x.gone(1), 100);
    }

    /** As much as calls can bring: products of it are beyond an int. */
    private static void muchOfEachPart(Due due) {
        for (int part = 0; part < 4; part++) {
            DigesterRates x = with(part, MOST_STARTS * 1000000L);
            for (int k = 0; k < 3; k++) {
                x.rate(k, 1000000);
            }
            x.run(1);
            // s is 520 if it is acid: 249600000 of 480000000 become gas.
            due.same("part 0 of " + part, x.at(0), 0);
            due.same("part 1 of " + part, x.at(1), part == 0 ? 480000000 : 0);
            due.same("part 2 of " + part, x.at(2), part == 1 ? 480000000 : part == 2 ? 230400000 : 0);
            due.same("part 3 of " + part, x.at(3), part == 3 ? 480000000 : 0);
            due.same("gas of " + part, x.gone(1), part == 2 ? 249600000 : 0);
            due.same("flared of " + part, x.gone(3), part == 2 ? 249600000 : 0);
            due.same("came in of " + part, x.gone(0), 480000000);
            due.same("balance(0) of " + part, x.balance(0), 0);
            due.same("balance(1) of " + part, x.balance(1), 0);
        }
    }
}
