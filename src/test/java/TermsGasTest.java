/** The edges that "Terms" name of gas and of acid: needs, ranks, room, sourness. */
public final class TermsGasTest {
    public static void main(String[] args) {
        Due due = new Due();
        eachTakesItsNeedOrWhatTheStoreHas(due);
        theNextTakesOfWhatIsLeft(due);
        needsAtTheirEdges(due);
        leastRankFirst(due);
        sameRankByNumbers(due);
        whatIsAboveTheRoomIsFlared(due);
        usersTakeBeforeTheRoomCounts(due);
        roomAtItsEdges(due);
        roomCountsWhenAMinuteRuns(due);
        usersOfNoGasTakeFromTheStore(due);
        sournessIsTheGreatest(due);
        sournessAtZero(due);
        sournessByMuch(due);
        due.end();
    }

    /** An object whose next minute makes so much gas. */
    private static DigesterRates making(int gas) {
        DigesterRates x = new DigesterRates();
        x.start(2, gas);
        x.rate(2, 1000000);
        return x;
    }

    /** 100 are made: needs of 0, 1, 99, 100, 101 and the greatest. */
    private static void eachTakesItsNeedOrWhatTheStoreHas(Due due) {
        int[][] rows = {{0, 0}, {1, 1}, {99, 99}, {100, 100}, {101, 100}, {999999, 100}, {1000000, 100}};
        for (int[] row : rows) {
            DigesterRates x = making(100);
            x.room(1000);
            x.rank(5, row[0]);
            x.run(1);
            due.same("a need of " + row[0], x.given(0), row[1]);
            due.gas("a need of " + row[0], x, 100, row[1], 0, 100 - row[1]);
        }
    }

    private static void theNextTakesOfWhatIsLeft(Due due) {
        int[][] rows = {{0, 60}, {39, 60}, {40, 60}, {41, 59}, {99, 1}, {100, 0}, {101, 0}};
        for (int[] row : rows) {
            DigesterRates x = making(100);
            x.room(1000);
            x.rank(0, row[0]);
            x.rank(1, 60);
            x.rank(2, 0);
            x.run(1);
            int first = Math.min(100, row[0]);
            due.same("first, of " + row[0], x.given(0), first);
            due.same("second, behind " + row[0], x.given(1), row[1]);
            due.same("without a need, behind " + row[0], x.given(2), 0);
            due.gas("behind " + row[0], x, 100, first + row[1], 0, 100 - first - row[1]);
        }
    }

    /** The greatest need, of a store that has one less, as much, and one more. */
    private static void needsAtTheirEdges(Due due) {
        for (int more = -1; more <= 1; more++) {
            DigesterRates x = making(500000);
            x.room(1000000000);
            x.run(1);
            x.start(2, 500000 + more);
            x.rank(0, 1000000);
            x.run(1);
            int given = Math.min(1000000, 1000000 + more);
            due.same("of 1000000 and " + more, x.given(0), given);
            due.gas("of 1000000 and " + more, x, 1000000 + more, given, 0, Math.max(0, more));
        }
    }

    private static void leastRankFirst(Due due) {
        for (int low = 0; low < 9; low++) {
            for (int high = low + 1; high <= 9; high++) {
                DigesterRates x = making(10);
                x.rank(high, 8);
                x.rank(low, 8);
                x.run(1);
                due.same("rank " + low + " before " + high, x.given(1), 8);
                due.same("rank " + high + " behind " + low, x.given(0), 2);
            }
        }
        DigesterRates x = making(10);
        x.rank(9, 4);
        x.rank(5, 4);
        x.rank(0, 4);
        x.rank(1, 4);
        x.run(1);
        due.same("rank 9", x.given(0), 0);
        due.same("rank 5", x.given(1), 2);
        due.same("rank 0", x.given(2), 4);
        due.same("rank 1", x.given(3), 4);
    }

    private static void sameRankByNumbers(Due due) {
        for (int rank = 0; rank <= 9; rank++) {
            DigesterRates x = making(10);
            for (int user = 0; user < 4; user++) {
                due.same("its number", x.rank(rank, 4), user);
            }
            x.run(1);
            due.same("user 0 of rank " + rank, x.given(0), 4);
            due.same("user 1 of rank " + rank, x.given(1), 4);
            due.same("user 2 of rank " + rank, x.given(2), 2);
            due.same("user 3 of rank " + rank, x.given(3), 0);
        }
    }

    /** 100 are made: "when the store has more than its ROOM". */
    private static void whatIsAboveTheRoomIsFlared(Due due) {
        int[][] rows = {{0, 100}, {1, 99}, {98, 2}, {99, 1}, {100, 0}, {101, 0}, {999999999, 0}, {1000000000, 0}};
        for (int[] row : rows) {
            DigesterRates x = making(100);
            x.room(row[0]);
            x.run(1);
            due.gas("a room of " + row[0], x, 100, 0, row[1], 100 - row[1]);
            x.run(5);
            due.gas("a room of " + row[0] + ", later", x, 100, 0, row[1], 100 - row[1]);
        }
    }

    private static void usersTakeBeforeTheRoomCounts(Due due) {
        int[][] rows = {{59, 1}, {60, 0}, {61, 0}};
        for (int[] row : rows) {
            DigesterRates x = making(100);
            x.room(40);
            x.rank(9, row[0]);
            x.run(1);
            due.gas("taken " + row[0], x, 100, row[0], row[1], 100 - row[0] - row[1]);
        }
    }

    private static void roomAtItsEdges(Due due) {
        DigesterRates x = new DigesterRates();
        for (int i = 0; i < 480; i++) {
            x.start(2, 1000000);
        }
        x.rate(2, 1000000);
        x.room(1000000000);
        x.run(1);
        due.gas("the greatest room", x, 249600000, 0, 0, 249600000);
        x.room(249599999);
        x.rate(2, 0);
        x.run(1);
        due.gas("one too few", x, 249600000, 0, 1, 249599999);
        x.room(0);
        x.run(1);
        due.gas("none", x, 249600000, 0, 249600000, 0);
    }

    private static void roomCountsWhenAMinuteRuns(Due due) {
        DigesterRates x = making(100);
        x.room(100);
        x.run(1);
        x.room(30);
        due.gas("not when it is told", x, 100, 0, 0, 100);
        x.room(100);
        x.run(1);
        due.gas("not when it was told between", x, 100, 0, 0, 100);
        x.room(30);
        x.run(1);
        due.gas("in the next minute", x, 100, 0, 70, 30);
        x.room(100);
        x.run(1);
        due.gas("it does not come back", x, 100, 0, 70, 30);
    }

    private static void usersOfNoGasTakeFromTheStore(Due due) {
        DigesterRates x = making(100);
        x.room(100);
        x.run(1);
        x.rank(0, 30);
        due.same("not before a minute", x.given(0), 0);
        int[] then = {30, 60, 90, 100, 100};
        for (int given : then) {
            x.run(1);
            due.same("given", x.given(0), given);
            due.gas("given", x, 100, given, 0, 100 - given);
        }
    }

    private static int sourness(int acid, int rest) {
        DigesterRates x = new DigesterRates();
        x.start(2, acid);
        x.start(3, rest);
        return x.acid();
    }

    /** Each answer fits, and one more does not; tried with every acid near where y becomes one more. */
    private static void sournessIsTheGreatest(Due due) {
        long[] rests = {0, 1, 2, 3, 24, 968, 999, 1000, 1001, 12345, 999999, 1000000};
        long[] steps = {1, 2, 3, 31, 32, 100, 999, 1000, 1001, 31622, 31623};
        for (long rest : rests) {
            for (long y : steps) {
                long least = (y * y + y * rest + 999) / 1000;
                for (long acid = Math.max(0, least - 1); acid <= least + 1; acid++) {
                    if (acid <= 1000000) {
                        greatest(due, acid, rest);
                    }
                }
            }
        }
    }

    private static void greatest(Due due, long acid, long rest) {
        long y = sourness((int) acid, (int) rest);
        String when = "sourness " + y + " of " + acid + " and " + rest;
        due.yes(when + " fits", 0 <= y && y <= 1000000 && y * y + y * rest <= 1000 * acid);
        due.yes(when + " is the greatest", (y + 1) * (y + 1) + (y + 1) * rest > 1000 * acid);
    }

    private static void sournessAtZero(Due due) {
        due.same("nothing", sourness(0, 0), 0);
        due.same("no acid", sourness(0, 1), 0);
        due.same("1 of acid, 999 of rest", sourness(1, 999), 1);
        due.same("1 of acid, 1000 of rest", sourness(1, 1000), 0);
        due.same("1 of acid, much rest", sourness(1, 1000000), 0);
        due.same("1000 of acid, 999999 of rest: just", sourness(1000, 999999), 1);
        due.same("1000 of acid, 1000000 of rest: not quite", sourness(1000, 1000000), 0);
        due.same("999 of acid, 999999 of rest", sourness(999, 999999), 0);
    }

    /** 1000000 itself would need 1000000000 grams, more than 512 calls can bring. */
    private static void sournessByMuch(Due due) {
        DigesterRates x = new DigesterRates();
        for (int i = 0; i < 490; i++) {
            x.start(2, 1000000);
        }
        // 700000 * 700000 is 490000000000.
        due.same("490000000 of acid", x.acid(), 700000);
        x.start(3, 1);
        due.same("and 1 of rest", x.acid(), 699999);
        x.start(2, 699);
        due.same("699 more of acid", x.acid(), 699999);
        x.start(2, 1);
        due.same("700 more of acid", x.acid(), 700000);
    }
}
