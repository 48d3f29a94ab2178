/** Counts the answers that are not as due, and tells each of them. */
final class Due {
    private int wrong = 0;
    private int asked = 0;

    void same(String call, long got, long want) {
        asked++;
        if (got != want) {
            wrong++;
            System.out.println(call + " answered " + got + ", due is " + want);
        }
    }

    void yes(String call, boolean got) {
        same(call, got ? 1 : 0, 1);
    }

    void no(String call, boolean got) {
        same(call, got ? 1 : 0, 0);
    }

    /** Of all four parts. */
    void parts(String when, DigesterRates x, long slow, long quick, long acid, long rest) {
        same(when + ": at(0)", x.at(0), slow);
        same(when + ": at(1)", x.at(1), quick);
        same(when + ": at(2)", x.at(2), acid);
        same(when + ": at(3)", x.at(3), rest);
    }

    /** Of gas: made, given, flared, and held in the store. */
    void gas(String when, DigesterRates x, long made, long given, long flared, long held) {
        same(when + ": gone(1)", x.gone(1), made);
        same(when + ": gone(2)", x.gone(2), given);
        same(when + ": gone(3)", x.gone(3), flared);
        same(when + ": gone(4)", x.gone(4), held);
    }

    /** Of the plan, how often each kind is fed. */
    void plan(String when, DigesterRates x, int a, int b, int c, int d) {
        same(when + ": planned(0)", x.planned(0), a);
        same(when + ": planned(1)", x.planned(1), b);
        same(when + ": planned(2)", x.planned(2), c);
        same(when + ": planned(3)", x.planned(3), d);
    }

    boolean anyWrong() {
        return wrong != 0;
    }

    void end() {
        System.out.println(asked + " answers, " + wrong + " not as due");
        if (wrong != 0) {
            System.exit(1);
        }
    }
}
