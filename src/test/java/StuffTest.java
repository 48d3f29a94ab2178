/** Promises 2 (kind), 3 (start) and 4 (feed). */
public final class StuffTest {
    public static void main(String[] args) {
        Due due = new Due();
        kindTakesItsRange(due);
        kindKeepsToThousand(due);
        refusedKindChangesNothing(due);
        sharesRoundDown(due);
        sharesAreThoseOfTheMinute(due);
        startTakesItsRange(due);
        startComesInAtOnce(due);
        startTakesAllThatCallsBring(due);
        feedTakesItsRange(due);
        feedIsForMinutesToRun(due);
        feedTakesThirty(due);
        feedComesInItsMinute(due);
        due.end();
    }

    private static void kindTakesItsRange(Due due) {
        DigesterRates x = new DigesterRates();
        for (int kind : new int[] {-1, 4, Integer.MIN_VALUE, Integer.MAX_VALUE}) {
            due.no("kind of " + kind, x.kind(kind, 0, 1));
        }
        for (int part : new int[] {-1, 3, 4, Integer.MIN_VALUE, Integer.MAX_VALUE}) {
            due.no("kind with part " + part, x.kind(0, part, 1));
        }
        for (int share : new int[] {-1, 1001, Integer.MIN_VALUE, Integer.MAX_VALUE}) {
            due.no("kind with share " + share, x.kind(0, 0, share));
        }
        for (int kind = 0; kind < 4; kind++) {
            for (int part = 0; part < 3; part++) {
                due.yes("kind 1000", x.kind(kind, part, 1000));
                due.yes("kind 0", x.kind(kind, part, 0));
            }
        }
    }

    private static void kindKeepsToThousand(Due due) {
        DigesterRates x = new DigesterRates();
        due.yes("400", x.kind(2, 0, 400));
        due.yes("400 + 300", x.kind(2, 1, 300));
        due.no("400 + 300 + 301", x.kind(2, 2, 301));
        due.yes("400 + 300 + 300", x.kind(2, 2, 300));
        due.no("401 + 300 + 300", x.kind(2, 0, 401));
        due.yes("the same again", x.kind(2, 0, 400));
        due.yes("less", x.kind(2, 0, 100));
        due.yes("100 + 600 + 300", x.kind(2, 1, 600));
        due.yes("another kind has its own", x.kind(3, 0, 1000));
        due.no("another kind is full", x.kind(3, 1, 1));
    }

    private static void refusedKindChangesNothing(Due due) {
        DigesterRates x = new DigesterRates();
        x.kind(1, 0, 600);
        x.kind(1, 1, 300);
        due.no("600 + 500", x.kind(1, 1, 500));
        x.feed(0, 1, 1000);
        x.run(1);
        due.parts("after a refused share", x, 600, 300, 0, 100);
    }

    private static void sharesRoundDown(Due due) {
        DigesterRates x = new DigesterRates();
        x.kind(0, 0, 333);
        x.kind(0, 1, 333);
        x.kind(0, 2, 334);
        x.feed(0, 0, 2);
        x.run(1);
        due.parts("2 grams, all rounded", x, 0, 0, 0, 2);
        x.feed(1, 0, 1001);
        x.run(1);
        due.parts("1001 grams", x, 333, 333, 334, 3);
        due.same("came in", x.gone(0), 1003);
        // Each time is rounded by itself: 999 grams are 332, 332, 333, and twice that is not 1998's.
        x.feed(2, 0, 999);
        x.feed(2, 0, 999);
        x.run(1);
        due.parts("999 grams, twice", x, 333 + 664, 333 + 664, 334 + 666, 3 + 4);
        x.kind(3, 0, 1000);
        x.feed(3, 3, 100000);
        x.run(1);
        due.parts("100000 grams of one part", x, 100997, 997, 1000, 7);
    }

    private static void sharesAreThoseOfTheMinute(Due due) {
        DigesterRates x = new DigesterRates();
        x.kind(0, 0, 1000);
        x.feed(0, 0, 10);
        x.feed(1, 0, 10);
        x.run(1);
        x.kind(0, 0, 0);
        x.kind(0, 1, 1000);
        x.run(1);
        due.parts("shares changed between", x, 10, 10, 0, 0);
    }

    private static void startTakesItsRange(Due due) {
        DigesterRates x = new DigesterRates();
        for (int part : new int[] {-1, 4, Integer.MIN_VALUE, Integer.MAX_VALUE}) {
            due.no("start of part " + part, x.start(part, 1));
        }
        for (int grams : new int[] {-1, 1000001, Integer.MIN_VALUE, Integer.MAX_VALUE}) {
            due.no("start of grams " + grams, x.start(0, grams));
        }
        due.parts("all refused", x, 0, 0, 0, 0);
        due.same("nothing came in", x.gone(0), 0);
        for (int part = 0; part < 4; part++) {
            due.yes("start 0", x.start(part, 0));
            due.yes("start 1000000", x.start(part, 1000000));
        }
        due.parts("all taken", x, 1000000, 1000000, 1000000, 1000000);
        due.same("all came in", x.gone(0), 4000000);
    }

    private static void startComesInAtOnce(Due due) {
        DigesterRates x = new DigesterRates();
        x.start(0, 1);
        x.start(1, 20);
        x.start(2, 300);
        x.start(3, 4000);
        x.start(3, 50000);
        due.parts("before a minute", x, 1, 20, 300, 54000);
        due.same("came in", x.gone(0), 54321);
        due.same("the next minute is still 0", x.run(1), 1);
    }

    /** As near to 1000000000 as 512 calls come. */
    private static void startTakesAllThatCallsBring(Due due) {
        for (int part = 0; part < 4; part++) {
            DigesterRates x = new DigesterRates();
            for (int i = 0; i < 510; i++) {
                due.yes("start of part " + part, x.start(part, 1000000));
            }
            due.same("all of part " + part, x.at(part), 510000000);
            due.same("came in", x.gone(0), 510000000);
        }
    }

    private static void feedTakesItsRange(Due due) {
        DigesterRates x = new DigesterRates();
        for (int minute : new int[] {-1, 10000, Integer.MIN_VALUE, Integer.MAX_VALUE}) {
            due.no("feed for minute " + minute, x.feed(minute, 0, 1));
        }
        for (int kind : new int[] {-1, 4, Integer.MIN_VALUE, Integer.MAX_VALUE}) {
            due.no("feed of kind " + kind, x.feed(0, kind, 1));
        }
        for (int grams : new int[] {-1, 0, 100001, Integer.MIN_VALUE, Integer.MAX_VALUE}) {
            due.no("feed of grams " + grams, x.feed(0, 0, grams));
        }
        x.run(1);
        due.same("nothing came in", x.gone(0), 0);
        due.yes("the least", x.feed(1, 0, 1));
        due.yes("the most", x.feed(9999, 3, 100000));
    }

    private static void feedIsForMinutesToRun(Due due) {
        DigesterRates x = new DigesterRates();
        x.run(5);
        due.no("a minute that ran", x.feed(4, 0, 1));
        due.no("the first minute", x.feed(0, 0, 1));
        due.yes("the next one", x.feed(5, 0, 1));
        x.run(1);
        due.no("it ran now", x.feed(5, 0, 1));
        due.same("came in", x.gone(0), 1);
        for (int i = 0; i < 9; i++) {
            x.run(1000);
        }
        x.run(993);
        due.yes("the last minute", x.feed(9999, 0, 7));
        due.same("the last minute runs", x.run(1), 10000);
        due.no("no minute is left", x.feed(9999, 0, 7));
        due.no("nor beyond", x.feed(10000, 0, 7));
        due.same("came in by the end", x.gone(0), 8);
    }

    private static void feedTakesThirty(Due due) {
        DigesterRates x = new DigesterRates();
        for (int i = 0; i < 15; i++) {
            due.yes("feed", x.feed(0, 0, 1));
        }
        due.no("a refused one does not count", x.feed(0, 0, 0));
        x.run(1);
        for (int i = 0; i < 15; i++) {
            due.yes("feed after a minute", x.feed(1, 0, 1));
        }
        due.no("the 31st", x.feed(1, 0, 1));
        x.run(1);
        due.no("the 31st when all came in", x.feed(2, 0, 1));
        due.same("came in", x.gone(0), 30);
    }

    private static void feedComesInItsMinute(Due due) {
        DigesterRates x = new DigesterRates();
        x.feed(3, 0, 100);
        x.feed(1, 0, 10);
        x.feed(3, 1, 200);
        due.same("not when told", x.at(3), 0);
        x.run(1);
        due.same("not in minute 0", x.at(3), 0);
        x.run(1);
        due.same("in minute 1", x.at(3), 10);
        x.run(1);
        due.same("not in minute 2", x.at(3), 10);
        x.run(1);
        due.same("in minute 3", x.at(3), 310);
        x.run(1);
        due.same("not again", x.at(3), 310);
    }
}
