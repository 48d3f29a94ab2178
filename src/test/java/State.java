import java.util.ArrayList;
import java.util.List;

/** Objects in states in which calls are refused, made anew each time by the same calls. */
enum State {
    NEW(0, 0),
    /** Some of everything: a kind without a load, room for shares, for feeds and for users. */
    IN_USE(12, 2),
    /** 30 told, some of them still to come, 4 users, all shares 1000 together. */
    FULL(5, 4),
    /** A plan of 12 loads and 10 minutes left. */
    NEAR_THE_END(9990, 1),
    AT_THE_END(10000, 4);

    /** Of parts 0 to 2, alike for all kinds but for what the kind's number adds. */
    static final int[] SHARES = {200, 300, 400};
    static final int GAS = 10;

    final int nextMinute;
    final int users;

    State(int nextMinute, int users) {
        this.nextMinute = nextMinute;
        this.users = users;
    }

    static int share(int kind, int part) {
        return SHARES[part] + kind * (part + 1);
    }

    DigesterRates make() {
        DigesterRates x = new DigesterRates();
        if (this == NEW) {
            return x;
        }
        for (int kind = 0; kind < 4; kind++) {
            for (int part = 0; part < 3; part++) {
                x.kind(kind, part, share(kind, part));
            }
        }
        for (int part = 0; part < 4; part++) {
            x.start(part, 400000 + 1000 * part);
        }
        for (int k = 0; k < 3; k++) {
            x.rate(k, 20000 + 7000 * k);
        }
        x.bound(1500000);
        x.room(12000);
        for (int user = 0; user < users; user++) {
            x.rank(5 - user, 300 + user);
        }
        for (int kind = 0; kind < (this == IN_USE ? 3 : 4); kind++) {
            x.load(kind, 500 + kind, 20 + kind, GAS + kind);
        }
        x.plan(this == NEAR_THE_END ? 12 * (GAS + 3) : GAS);
        for (int i = 0; i < (this == FULL ? 30 : 6); i++) {
            x.feed(3 * i, i % 4, 5000 + i);
        }
        fillShares(x);
        runOn(x);
        return x;
    }

    private void fillShares(DigesterRates x) {
        for (int kind = 0; this == FULL && kind < 4; kind++) {
            x.kind(kind, 0, 1000 - share(kind, 1) - share(kind, 2));
        }
    }

    private void runOn(DigesterRates x) {
        int left = nextMinute;
        while (left > 0) {
            int now = Math.min(left, 1000);
            x.run(now);
            left -= now;
        }
    }

    /** What is refused in this state beyond numbers that are never such. */
    List<Call> refusals() {
        switch (this) {
            case NEW: return refusedWhenNew();
            case IN_USE: return refusedInUse();
            case FULL: return refusedWhenFull();
            case NEAR_THE_END: return refusedNearTheEnd();
            default: return refusedAtTheEnd();
        }
    }

    private static List<Call> refusedWhenNew() {
        List<Call> calls = new ArrayList<>(List.of(Call.of("serve"), Call.of("plan", 1), Call.of("plan", 1000000),
                Call.of("sour", 0)));
        for (int i = 0; i < 4; i++) {
            calls.add(Call.of("planned", i));
            calls.add(Call.of("given", i));
        }
        return calls;
    }

    private static List<Call> refusedInUse() {
        List<Call> calls = new ArrayList<>();
        for (int kind = 0; kind < 4; kind++) {
            for (int part = 0; part < 3; part++) {
                int others = SHARES[0] + SHARES[1] + SHARES[2] + 6 * kind - share(kind, part);
                calls.add(Call.of("kind", kind, part, 1001 - others));
                calls.add(Call.of("kind", kind, part, 1000));
            }
        }
        // All that kinds 0 to 2 bring is 9 times 33.
        calls.add(Call.of("plan", 298));
        calls.add(Call.of("plan", 1000000));
        calls.add(Call.of("feed", 0, 1, 5));
        calls.add(Call.of("feed", 11, 1, 5));
        calls.add(Call.of("sour", 1000000000));
        calls.add(Call.of("sour", Long.MAX_VALUE));
        return calls;
    }

    private static List<Call> refusedWhenFull() {
        List<Call> calls = new ArrayList<>(List.of(Call.of("serve"), Call.of("rank", 0, 5), Call.of("rank", 9, 0),
                Call.of("feed", 5, 0, 1), Call.of("feed", 9999, 3, 100000)));
        for (int kind = 0; kind < 4; kind++) {
            calls.add(Call.of("kind", kind, 0, 1001 - share(kind, 1) - share(kind, 2)));
            calls.add(Call.of("kind", kind, 1, share(kind, 1) + 1));
            calls.add(Call.of("kind", kind, 2, share(kind, 2) + 1));
        }
        return calls;
    }

    private static List<Call> refusedNearTheEnd() {
        return List.of(Call.of("serve"), Call.of("run", 11), Call.of("run", 12), Call.of("run", 1000),
                Call.of("feed", 9989, 0, 1));
    }

    private static List<Call> refusedAtTheEnd() {
        return List.of(Call.of("serve"), Call.of("run", 1), Call.of("run", 1000), Call.of("feed", 9999, 0, 1),
                Call.of("rank", 0, 5));
    }
}
