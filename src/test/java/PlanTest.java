/** Promises 16 (load), 17 (plan), 18 (planned) and 19 (serve). */
public final class PlanTest {
    public static void main(String[] args) {
        Due due = new Due();
        loadTakesItsRange(due);
        refusedLoadChangesNothing(due);
        planTakesItsRange(due);
        cheapestPlan(due);
        firstOfTheCheapest(due);
        loadsNotToldAreNotUsed(due);
        loadsToldAgain(due);
        planThatFailsLeavesTheOneBefore(due);
        greatestPlan(due);
        serveFeedsTheNextMinutes(due);
        serveTakesTheLoadAsItIsThen(due);
        serveKeepsToThirty(due);
        serveKeepsToTheLastMinute(due);
        due.end();
    }

    private static void loadTakesItsRange(Due due) {
        DigesterRates x = new DigesterRates();
        for (int kind : new int[] {-1, 4, Integer.MIN_VALUE, Integer.MAX_VALUE}) {
            due.no("load of kind " + kind, x.load(kind, 1, 1, 1));
        }
        for (int grams : new int[] {-1, 0, 100001, Integer.MIN_VALUE, Integer.MAX_VALUE}) {
            due.no("load of grams " + grams, x.load(0, grams, 1, 1));
        }
        for (int other : new int[] {-1, 100001, Integer.MIN_VALUE, Integer.MAX_VALUE}) {
            due.no("load of cents " + other, x.load(0, 1, other, 1));
            due.no("load of gas " + other, x.load(0, 1, 1, other));
        }
        due.same("no load was told", x.plan(1), -1);
        for (int kind = 0; kind < 4; kind++) {
            due.yes("the least load", x.load(kind, 1, 0, 0));
            due.yes("the most load", x.load(kind, 100000, 100000, 100000));
        }
    }

    private static void refusedLoadChangesNothing(Due due) {
        DigesterRates x = new DigesterRates();
        x.load(1, 10, 7, 5);
        x.load(1, 20, 1, 100001);
        x.load(1, 20, 100001, 1);
        x.load(1, 100001, 1, 1);
        due.same("plan(5)", x.plan(5), 7);
        x.serve();
        x.run(1);
        due.same("its grams", x.gone(0), 10);
    }

    private static void planTakesItsRange(Due due) {
        DigesterRates x = new DigesterRates();
        for (int kind = 0; kind < 4; kind++) {
            x.load(kind, 1, 1, 100000);
        }
        for (int wanted : new int[] {-1, 1000001, Integer.MIN_VALUE, Integer.MAX_VALUE}) {
            due.same("plan of " + wanted, x.plan(wanted), -1);
        }
        due.same("no plan was found", x.planned(0), -1);
        due.same("plan(0)", x.plan(0), 0);
        due.plan("plan(0)", x, 0, 0, 0, 0);
        due.same("plan(1000000)", x.plan(1000000), 10);
        due.plan("plan(1000000)", x, 0, 0, 1, 9);
        for (int kind : new int[] {-1, 4, Integer.MIN_VALUE, Integer.MAX_VALUE}) {
            due.same("planned of " + kind, x.planned(kind), -1);
        }
    }

    private static void cheapestPlan(Due due) {
        DigesterRates x = new DigesterRates();
        x.load(0, 1, 10, 10);
        x.load(1, 1, 6, 7);
        x.load(2, 1, 25, 40);
        x.load(3, 1, 1, 1);
        due.same("plan(1)", x.plan(1), 1);
        due.plan("plan(1)", x, 0, 0, 0, 1);
        due.same("plan(6)", x.plan(6), 6);
        due.plan("plan(6)", x, 0, 0, 0, 6);
        due.same("plan(7)", x.plan(7), 6);
        due.plan("plan(7)", x, 0, 1, 0, 0);
        due.same("plan(38)", x.plan(38), 25);
        due.plan("plan(38)", x, 0, 0, 1, 0);
        due.same("plan(41)", x.plan(41), 26);
        due.plan("plan(41)", x, 0, 0, 1, 1);
        due.same("plan(360)", x.plan(360), 225);
        due.plan("plan(360)", x, 0, 0, 9, 0);
        due.same("plan(522): all", x.plan(522), 378);
        due.plan("plan(522)", x, 9, 9, 9, 9);
        due.same("plan(523): more than all", x.plan(523), -1);
    }

    private static void firstOfTheCheapest(Due due) {
        DigesterRates x = new DigesterRates();
        for (int kind = 0; kind < 4; kind++) {
            x.load(kind, 1, 2, 3);
        }
        due.same("alike", x.plan(30), 20);
        due.plan("alike: kind 0 the fewest", x, 0, 0, 1, 9);
        x.load(3, 1, 4, 6);
        due.same("twice as large", x.plan(6), 4);
        due.plan("twice as large", x, 0, 0, 0, 1);
        x.load(0, 1, 0, 1);
        x.load(1, 1, 0, 1);
        x.load(2, 1, 0, 0);
        due.same("for nothing", x.plan(11), 0);
        due.plan("for nothing", x, 2, 9, 0, 0);
        due.same("for nothing, none", x.plan(0), 0);
        due.plan("for nothing, none", x, 0, 0, 0, 0);
        x.load(0, 1, 5, 0);
        x.load(1, 1, 5, 0);
        x.load(3, 1, 0, 2);
        due.same("the last kind for nothing", x.plan(3), 0);
        due.plan("the last kind for nothing", x, 0, 0, 0, 2);
    }

    private static void loadsNotToldAreNotUsed(Due due) {
        for (int kind = 0; kind < 4; kind++) {
            DigesterRates x = new DigesterRates();
            x.load(kind, 1, 3, 2);
            due.same("one kind alone", x.plan(5), 9);
            due.plan("one kind alone", x,
                    kind == 0 ? 3 : 0, kind == 1 ? 3 : 0, kind == 2 ? 3 : 0, kind == 3 ? 3 : 0);
            due.same("nine times", x.plan(18), 27);
            due.same("ten times", x.plan(19), -1);
        }
    }

    private static void loadsToldAgain(Due due) {
        DigesterRates x = new DigesterRates();
        x.load(2, 1, 3, 2);
        due.same("plan(2)", x.plan(2), 3);
        x.load(2, 1, 5, 1);
        due.plan("the plan stays", x, 0, 0, 1, 0);
        due.same("plan(2) then", x.plan(2), 10);
        due.plan("the plan then", x, 0, 0, 2, 0);
    }

    private static void planThatFailsLeavesTheOneBefore(Due due) {
        DigesterRates x = new DigesterRates();
        x.load(1, 5, 3, 2);
        due.same("too much", x.plan(19), -1);
        due.plan("none yet", x, -1, -1, -1, -1);
        due.same("none to serve", x.serve(), -1);
        x.plan(4);
        due.same("too much", x.plan(19), -1);
        due.plan("after too much", x, 0, 2, 0, 0);
        due.same("wrong", x.plan(-1), -1);
        due.plan("after wrong", x, 0, 2, 0, 0);
        due.same("it can be served", x.serve(), 2);
    }

    private static void greatestPlan(Due due) {
        DigesterRates x = new DigesterRates();
        for (int kind = 0; kind < 4; kind++) {
            x.load(kind, 100000, 100000, 27777);
        }
        due.same("just not all", x.plan(999972), 3600000);
        due.plan("just not all", x, 9, 9, 9, 9);
        due.same("not enough", x.plan(999973), -1);
        due.same("36 are more than 30", x.serve(), -1);
        x.run(1);
        due.same("nothing was told", x.gone(0), 0);
    }

    private static void serveFeedsTheNextMinutes(Due due) {
        DigesterRates x = new DigesterRates();
        x.kind(0, 0, 1000);
        x.kind(2, 1, 1000);
        x.load(0, 10, 1, 10);
        x.load(2, 300, 2, 10);
        x.load(3, 5000, 3, 10);
        x.run(7);
        x.plan(200);
        due.plan("plan(200)", x, 9, 0, 9, 2);
        due.same("serve()", x.serve(), 20);
        due.same("not at once", x.gone(0), 0);
        for (int i = 1; i <= 9; i++) {
            x.run(1);
            due.parts("kind 0, minute " + i, x, 10 * i, 0, 0, 0);
        }
        for (int i = 1; i <= 9; i++) {
            x.run(1);
            due.parts("kind 2, minute " + i, x, 90, 300 * i, 0, 0);
        }
        for (int i = 1; i <= 2; i++) {
            x.run(1);
            due.parts("kind 3, minute " + i, x, 90, 2700, 0, 5000 * i);
        }
        x.run(10);
        due.parts("no more", x, 90, 2700, 0, 10000);
        due.plan("the plan stays", x, 9, 0, 9, 2);
        x.plan(0);
        due.same("serve() of none", x.serve(), 0);
    }

    private static void serveTakesTheLoadAsItIsThen(Due due) {
        DigesterRates x = new DigesterRates();
        x.load(0, 10, 1, 10);
        x.plan(20);
        x.load(0, 30, 1, 10);
        due.same("serve()", x.serve(), 2);
        x.load(0, 500, 1, 10);
        x.run(2);
        due.same("the load when served", x.gone(0), 60);
    }

    private static void serveKeepsToThirty(Due due) {
        DigesterRates x = new DigesterRates();
        x.load(1, 1, 1, 1);
        x.plan(9);
        due.same("9", x.serve(), 9);
        due.same("18", x.serve(), 9);
        x.run(9);
        due.same("18 came in, two a minute", x.gone(0), 18);
        for (int i = 0; i < 4; i++) {
            due.yes("feed to 22", x.feed(20, 0, 1));
        }
        due.same("31 would be one too many", x.serve(), -1);
        x.plan(8);
        due.same("30 are told", x.serve(), 8);
        due.no("no feed more", x.feed(30, 0, 1));
        x.plan(1);
        due.same("no serve more", x.serve(), -1);
        x.plan(0);
        due.same("none is none too many", x.serve(), 0);
        x.run(50);
        due.same("30 came in", x.gone(0), 30);
    }

    private static void serveKeepsToTheLastMinute(Due due) {
        DigesterRates x = new DigesterRates();
        x.load(1, 1, 1, 1);
        x.plan(5);
        for (int i = 0; i < 9; i++) {
            x.run(1000);
        }
        x.run(996);
        due.same("minutes 9996 to 10000", x.serve(), -1);
        x.plan(4);
        due.same("minutes 9996 to 9999", x.serve(), 4);
        due.same("the end", x.run(4), 10000);
        due.same("all came in", x.gone(0), 4);
        due.same("beyond the end", x.serve(), -1);
        x.plan(0);
        due.same("none is not beyond", x.serve(), 0);
    }
}
