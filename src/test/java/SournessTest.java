/** Promises 14 (acid) and 15 (sour). */
public final class SournessTest {
    public static void main(String[] args) {
        Due due = new Due();
        sournessByParts(due);
        sourAtMinutesEnds(due);
        sourTakesItsRange(due);
        sourOverAllMinutes(due);
        due.end();
    }

    private static int sourness(int acid, int rest) {
        DigesterRates x = new DigesterRates();
        x.start(2, acid);
        x.start(3, rest);
        return x.acid();
    }

    private static void sournessByParts(Due due) {
        due.same("nothing", sourness(0, 0), 0);
        due.same("rest alone", sourness(0, 1000000), 0);
        due.same("1000: 31 * 31 is 961", sourness(1, 0), 31);
        due.same("1000000: just", sourness(1000, 0), 1000);
        due.same("999000: not quite", sourness(999, 0), 999);
        due.same("y(y + 1) of 1000: 31 * 32 is 992", sourness(1, 1), 31);
        due.same("y(y + 999) of 1000: just", sourness(1, 999), 1);
        due.same("y(y + 1000) of 1000: not quite", sourness(1, 1000), 0);
        due.same("y(y + 1000) of 2000000", sourness(2000, 1000), 1000);
        due.same("much of both", sourness(1000000, 1000000), 999);
        due.same("much acid", sourness(1000000, 0), 31622);
        DigesterRates x = new DigesterRates();
        for (int i = 0; i < 500; i++) {
            x.start(2, 1000000);
        }
        // 707106 * 707106 is 499998895236, and 707107 * 707107 is 500000309449.
        due.same("as much as calls can bring", x.acid(), 707106);
        x.start(3, 1000000);
        due.same("and rest", x.acid(), 366025);
        due.same("it changes nothing", x.acid(), 366025);
    }

    private static void sourAtMinutesEnds(Due due) {
        DigesterRates x = new DigesterRates();
        x.start(2, 5000);
        due.same("no minute ran", x.sour(0), -1);
        x.rate(2, 1000000);
        x.bound(1000000000);
        x.run(1);
        due.same("the acid is gone at the end", x.sour(0), -1);
        x.rate(2, 0);
        x.start(2, 100);
        due.same("between minutes does not count", x.sour(0), -1);
        x.run(2);
        due.same("more than 99", x.sour(99), 1);
        due.same("not more than 100", x.sour(100), -1);
        x.start(2, 100);
        x.run(1);
        x.start(2, 100);
        x.run(1);
        due.same("more than 100", x.sour(100), 3);
        due.same("more than 199", x.sour(199), 3);
        due.same("more than 200", x.sour(200), 4);
        due.same("more than 300", x.sour(300), -1);
        x.rate(2, 1000000);
        x.run(1);
        due.same("it fell since", x.at(2), 0);
        due.same("more than 299, still", x.sour(299), 4);
        due.same("more than 0, still", x.sour(0), 1);
        x.rate(2, 0);
        x.start(2, 250);
        x.run(1);
        due.same("a lower peak comes too late", x.sour(240), 4);
    }

    private static void sourTakesItsRange(Due due) {
        DigesterRates x = new DigesterRates();
        x.start(2, 10);
        x.run(1);
        due.same("sour(0)", x.sour(0), 0);
        due.same("sour(-1)", x.sour(-1), -1);
        due.same("sour(least)", x.sour(Long.MIN_VALUE), -1);
        due.same("sour(most)", x.sour(Long.MAX_VALUE), -1);
        // Its lower 32 bits are 0.
        due.same("sour(2^32)", x.sour(1L << 32), -1);
    }

    private static void sourOverAllMinutes(Due due) {
        DigesterRates x = new DigesterRates();
        for (int i = 0; i < 10; i++) {
            x.start(1, 1000000);
        }
        x.rate(1, 1);
        for (int i = 0; i < 10; i++) {
            x.run(1000);
        }
        // x1 is 10 less ever more, but for s: at least 1 a minute, so that each is a new peak.
        due.same("the last minute", x.sour(x.at(2) - 1), 9999);
        due.same("never", x.sour(x.at(2)), -1);
        due.same("the first minute", x.sour(0), 0);
        due.same("the second", x.sour(10), 1);
        due.same("the third", x.sour(19), 2);
    }
}
