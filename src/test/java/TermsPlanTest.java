/** The edges that "Terms" name of plans: how often, not told, enough, cheapest, first. */
public final class TermsPlanTest {
    public static void main(String[] args) {
        Due due = new Due();
        nineTimesAtMost(due);
        nineTimesOfAllKinds(due);
        noneAtLeast(due);
        loadsNotToldAreNotUsed(due);
        refusedLoadsAreNotTold(due);
        bringsThatOrMore(due);
        withoutGas(due);
        gasAndCentsAtTheirEdges(due);
        costsLeast(due);
        ofThoseItIsTheFirst(due);
        freeLoadsThatAreNotNeeded(due);
        everyPlanOfSmallLoads(due);
        due.end();
    }

    private static void planOf(Due due, DigesterRates x, int kind, int times) {
        due.plan("kind " + kind + " " + times + " times", x, kind == 0 ? times : 0, kind == 1 ? times : 0,
                kind == 2 ? times : 0, kind == 3 ? times : 0);
    }

    /** "each kind may be fed 0 .. 9 times": 8, 9 and 10 times, of one kind alone. */
    private static void nineTimesAtMost(Due due) {
        for (int kind = 0; kind < 4; kind++) {
            DigesterRates x = new DigesterRates();
            x.load(kind, 1, 7, 100);
            due.same("8 times", x.plan(800), 56);
            planOf(due, x, kind, 8);
            due.same("a bit more than 8 times", x.plan(801), 63);
            planOf(due, x, kind, 9);
            due.same("9 times", x.plan(900), 63);
            planOf(due, x, kind, 9);
            due.same("10 times", x.plan(901), -1);
            planOf(due, x, kind, 9);
            due.same("all that is wanted at most", x.plan(1000000), -1);
            planOf(due, x, kind, 9);
        }
    }

    private static void nineTimesOfAllKinds(Due due) {
        DigesterRates x = new DigesterRates();
        for (int kind = 0; kind < 4; kind++) {
            x.load(kind, 1, 1, 1);
        }
        due.same("35 times", x.plan(35), 35);
        due.plan("35 times", x, 8, 9, 9, 9);
        due.same("36 times", x.plan(36), 36);
        due.plan("36 times", x, 9, 9, 9, 9);
        due.same("37 times", x.plan(37), -1);
        due.plan("after 37 times", x, 9, 9, 9, 9);
    }

    private static void noneAtLeast(Due due) {
        DigesterRates x = new DigesterRates();
        due.same("nothing told, plan(0)", x.plan(0), 0);
        due.plan("nothing told, plan(0)", x, 0, 0, 0, 0);
        due.same("nothing told, plan(1)", x.plan(1), -1);
        due.plan("nothing told, after plan(1)", x, 0, 0, 0, 0);
        due.same("nothing to serve", x.serve(), 0);
        for (int kind = 0; kind < 4; kind++) {
            x.load(kind, 1, 0, 100000);
        }
        due.same("all told, plan(0)", x.plan(0), 0);
        due.plan("all told, plan(0)", x, 0, 0, 0, 0);
        due.same("all told, plan(1)", x.plan(1), 0);
        due.plan("all told, plan(1)", x, 0, 0, 0, 1);
    }

    /** Each set of told kinds: only those are used, all of them 9 times, and not once more. */
    private static void loadsNotToldAreNotUsed(Due due) {
        for (int set = 0; set < 16; set++) {
            DigesterRates x = new DigesterRates();
            int all = 0;
            for (int kind = 0; kind < 4; kind++) {
                if ((set >> kind & 1) == 1) {
                    x.load(kind, 1, 3, 5);
                    all += 9;
                }
            }
            String when = "told " + Integer.toBinaryString(set);
            due.same(when + ": all", x.plan(5 * all), 3 * all);
            due.plan(when, x, 9 * (set & 1), 9 * (set >> 1 & 1), 9 * (set >> 2 & 1), 9 * (set >> 3 & 1));
            due.same(when + ": more", x.plan(5 * all + 1), -1);
        }
    }

    private static void refusedLoadsAreNotTold(Due due) {
        DigesterRates x = new DigesterRates();
        for (int kind = 0; kind < 4; kind++) {
            due.no("grams too few", x.load(kind, 0, 1, 1));
            due.no("grams too many", x.load(kind, 100001, 1, 1));
            due.no("cents too few", x.load(kind, 1, -1, 1));
            due.no("cents too many", x.load(kind, 1, 100001, 1));
            due.no("gas too little", x.load(kind, 1, 1, -1));
            due.no("gas too much", x.load(kind, 1, 1, 100001));
        }
        due.same("none is told", x.plan(1), -1);
        due.same("none is found", x.planned(0), -1);
    }

    /** "brings that or more": as much just, one less and one more wanted. */
    private static void bringsThatOrMore(Due due) {
        DigesterRates x = new DigesterRates();
        x.load(1, 1, 10, 50);
        x.load(2, 1, 3, 7);
        due.same("6", x.plan(6), 3);
        due.same("7", x.plan(7), 3);
        due.plan("7", x, 0, 0, 1, 0);
        due.same("8", x.plan(8), 6);
        due.plan("8", x, 0, 0, 2, 0);
        due.same("49", x.plan(49), 10);
        due.same("50", x.plan(50), 10);
        due.plan("50", x, 0, 1, 0, 0);
        due.same("51", x.plan(51), 13);
        due.plan("51", x, 0, 1, 1, 0);
        due.same("57", x.plan(57), 13);
        due.same("58", x.plan(58), 16);
        due.plan("58", x, 0, 1, 2, 0);
    }

    private static void withoutGas(Due due) {
        for (int kind = 0; kind < 4; kind++) {
            DigesterRates x = new DigesterRates();
            x.load(kind, 1, 0, 0);
            due.same("no gas, plan(1)", x.plan(1), -1);
            due.same("no gas, plan(1000000)", x.plan(1000000), -1);
            due.same("no gas, no plan", x.planned(kind), -1);
            due.same("no gas, plan(0)", x.plan(0), 0);
            planOf(due, x, kind, 0);
        }
    }

    private static void gasAndCentsAtTheirEdges(Due due) {
        DigesterRates x = new DigesterRates();
        for (int kind = 0; kind < 4; kind++) {
            x.load(kind, 100000, 100000, 100000);
        }
        due.same("all that is wanted at most", x.plan(1000000), 1000000);
        due.plan("all that is wanted at most", x, 0, 0, 1, 9);
        due.same("900001", x.plan(900001), 1000000);
        due.same("900000", x.plan(900000), 900000);
        due.plan("900000", x, 0, 0, 0, 9);
        for (int kind = 0; kind < 4; kind++) {
            x.load(kind, 1, 100000, 27778);
        }
        due.same("36 bring 1000008", x.plan(1000000), 3600000);
        due.plan("36 bring 1000008", x, 9, 9, 9, 9);
        x.load(0, 1, 99999, 27770);
        due.same("36 bring 999936", x.plan(999936), 3599991);
        due.same("more than 36 bring", x.plan(999937), -1);
        due.plan("the one before stays", x, 9, 9, 9, 9);
    }

    /** One cent decides, also against the plan that is the first. */
    private static void costsLeast(Due due) {
        for (int cheap = 0; cheap < 4; cheap++) {
            DigesterRates x = new DigesterRates();
            for (int kind = 0; kind < 4; kind++) {
                x.load(kind, 1, kind == cheap ? 99 : 100, 10);
            }
            due.same("one cent less", x.plan(10), 99);
            planOf(due, x, cheap, 1);
            due.same("one cent less each", x.plan(90), 891);
            planOf(due, x, cheap, 9);
            due.same("one of the others", x.plan(91), 991);
        }
        DigesterRates x = new DigesterRates();
        x.load(0, 1, 19, 20);
        x.load(3, 1, 10, 10);
        due.same("one large for two small", x.plan(20), 19);
        due.plan("one large for two small", x, 1, 0, 0, 0);
        x.load(0, 1, 20, 20);
        due.same("as dear", x.plan(20), 20);
        due.plan("as dear", x, 0, 0, 0, 2);
        x.load(0, 1, 21, 20);
        due.same("dearer", x.plan(20), 20);
        due.plan("dearer", x, 0, 0, 0, 2);
    }

    /** Of two kinds that are alike, the later one is used first, up to 9 times. */
    private static void ofThoseItIsTheFirst(Due due) {
        for (int a = 0; a < 3; a++) {
            for (int b = a + 1; b < 4; b++) {
                DigesterRates x = new DigesterRates();
                x.load(a, 1, 4, 10);
                x.load(b, 1, 4, 10);
                due.same("alike, once", x.plan(10), 4);
                planOf(due, x, b, 1);
                due.same("alike, 9 times", x.plan(90), 36);
                planOf(due, x, b, 9);
                due.same("alike, 10 times", x.plan(91), 40);
                due.same("the earlier", x.planned(a), 1);
                due.same("the later", x.planned(b), 9);
            }
        }
    }

    private static void freeLoadsThatAreNotNeeded(Due due) {
        DigesterRates x = new DigesterRates();
        for (int kind = 0; kind < 4; kind++) {
            x.load(kind, 1, 0, kind);
        }
        due.same("plan(0)", x.plan(0), 0);
        due.plan("plan(0)", x, 0, 0, 0, 0);
        due.same("plan(27)", x.plan(27), 0);
        due.plan("plan(27)", x, 0, 0, 0, 9);
        due.same("plan(28)", x.plan(28), 0);
        due.plan("plan(28)", x, 0, 0, 1, 9);
        due.same("plan(46)", x.plan(46), 0);
        due.plan("plan(46)", x, 0, 1, 9, 9);
        due.same("plan(54)", x.plan(54), 0);
        due.plan("plan(54)", x, 0, 9, 9, 9);
        due.same("plan(55)", x.plan(55), -1);
    }

    /** Two kinds, all small cents and gases, against all 100 plans one by one. */
    private static void everyPlanOfSmallLoads(Due due) {
        for (int code = 0; code < 256; code++) {
            int[] cents = {code & 3, code >> 2 & 3};
            int[] gas = {code >> 4 & 3, code >> 6 & 3};
            DigesterRates x = new DigesterRates();
            x.load(1, 1, cents[0], gas[0]);
            x.load(3, 1, cents[1], gas[1]);
            for (int wanted = 0; wanted <= 56; wanted += 7) {
                onePlan(due, x, cents, gas, wanted);
            }
        }
    }

    private static void onePlan(Due due, DigesterRates x, int[] cents, int[] gas, int wanted) {
        int least = -1;
        int first = x.planned(1);
        int second = x.planned(3);
        for (int a = 0; a <= 9; a++) {
            for (int b = 0; b <= 9; b++) {
                int cost = a * cents[0] + b * cents[1];
                if (a * gas[0] + b * gas[1] >= wanted && (least < 0 || cost < least)) {
                    least = cost;
                    first = a;
                    second = b;
                }
            }
        }
        String when = "plan(" + wanted + ") of " + cents[0] + "/" + gas[0] + " and " + cents[1] + "/" + gas[1];
        due.same(when, x.plan(wanted), least);
        due.plan(when, x, 0, first, 0, second);
    }
}
