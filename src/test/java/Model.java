import java.math.BigInteger;
import java.util.ArrayList;
import java.util.List;

/** The document's words once more, as slowly and plainly as can be, to compare with. */
final class Model {
    private record Stuff(int minute, int kind, int grams) { }

    private record Load(int grams, int cents, int gas) { }

    private static final class User {
        int rank;
        long need;
        long given;
    }

    private final long[][] share = new long[4][3];
    private final BigInteger[] part = {big(0), big(0), big(0), big(0)};
    private final long[] rate = new long[3];
    private final List<Stuff> told = new ArrayList<>();
    private final List<User> users = new ArrayList<>();
    private final List<BigInteger> acidAtEnd = new ArrayList<>();
    private final Load[] loads = new Load[4];
    private long bound = 1000000000;
    private long room = 0;
    private BigInteger cameIn = big(0);
    private BigInteger made = big(0);
    private long held = 0;
    private long flared = 0;
    private int[] plan = null;

    private static BigInteger big(long n) {
        return BigInteger.valueOf(n);
    }

    private static boolean in(long n, long from, long to) {
        return from <= n && n <= to;
    }

    boolean kind(int kind, int p, int x) {
        if (!in(kind, 0, 3) || !in(p, 0, 2) || !in(x, 0, 1000)) return false;
        long[] then = share[kind].clone();
        then[p] = x;
        if (then[0] + then[1] + then[2] > 1000) return false;
        share[kind] = then;
        return true;
    }

    boolean start(int p, int grams) {
        if (!in(p, 0, 3) || !in(grams, 0, 1000000)) return false;
        bring(p, big(grams));
        return true;
    }

    private void bring(int p, BigInteger grams) {
        part[p] = part[p].add(grams);
        cameIn = cameIn.add(grams);
    }

    boolean feed(int minute, int kind, int grams) {
        if (!in(minute, acidAtEnd.size(), 9999) || !in(kind, 0, 3) || !in(grams, 1, 100000)) return false;
        if (told.size() == 30) return false;
        told.add(new Stuff(minute, kind, grams));
        return true;
    }

    boolean rate(int k, int x) {
        if (!in(k, 0, 2) || !in(x, 0, 1000000)) return false;
        rate[k] = x;
        return true;
    }

    boolean bound(int b) {
        if (!in(b, 1, 1000000000)) return false;
        bound = b;
        return true;
    }

    boolean room(int v) {
        if (!in(v, 0, 1000000000)) return false;
        room = v;
        return true;
    }

    int rank(int r, int need) {
        if (users.size() == 4 || !in(r, 0, 9) || !in(need, 0, 1000000)) return -1;
        User user = new User();
        user.rank = r;
        user.need = need;
        users.add(user);
        return users.size() - 1;
    }

    int run(int minutes) {
        if (!in(minutes, 1, 1000) || acidAtEnd.size() + minutes - 1 > 9999) return -1;
        for (int i = 0; i < minutes; i++) minute();
        return acidAtEnd.size();
    }

    int minutesRan() {
        return acidAtEnd.size();
    }

    private void minute() {
        for (Stuff stuff : told) {
            if (stuff.minute != acidAtEnd.size()) continue;
            long left = stuff.grams;
            for (int p = 0; p < 3; p++) {
                long x = stuff.grams * share[stuff.kind][p] / 1000;
                bring(p, big(x));
                left -= x;
            }
            bring(3, big(left));
        }
        BigInteger s = big(1000).subtract(part[2].multiply(big(1000)).divide(big(bound))).max(big(0));
        BigInteger[] x = new BigInteger[3];
        for (int k = 0; k < 3; k++) {
            x[k] = part[k].multiply(big(rate[k])).divide(big(1000000)).multiply(s).divide(big(1000));
        }
        for (int k = 0; k < 3; k++) {
            part[k] = part[k].subtract(x[k]);
            if (k < 2) part[k + 1] = part[k + 1].add(x[k]);
        }
        made = made.add(x[2]);
        held += x[2].longValueExact();
        for (int r = 0; r <= 9; r++) {
            for (User user : users) {
                if (user.rank != r) continue;
                long takes = user.need < held ? user.need : held;
                user.given += takes;
                held -= takes;
            }
        }
        if (held > room) {
            flared += held - room;
            held = room;
        }
        acidAtEnd.add(part[2]);
    }

    long at(int p) {
        return in(p, 0, 3) ? part[p].longValueExact() : -1;
    }

    long given(int user) {
        return in(user, 0, users.size() - 1) ? users.get(user).given : -1;
    }

    long gone(int what) {
        if (what == 0) return cameIn.longValueExact();
        if (what == 1) return made.longValueExact();
        if (what == 2) return users.stream().mapToLong(user -> user.given).sum();
        if (what == 3) return flared;
        return what == 4 ? held : -1;
    }

    long balance(int what) {
        if (what == 0) return gone(0) - at(0) - at(1) - at(2) - at(3) - gone(1);
        return what == 1 ? gone(1) - gone(4) - gone(2) - gone(3) : -1;
    }

    /** y(y + p) <= n just when (2y + p)^2 <= 4n + p^2. */
    int acid() {
        BigInteger n = part[2].multiply(big(1000));
        BigInteger root = n.multiply(big(4)).add(part[3].multiply(part[3])).sqrt();
        return root.subtract(part[3]).divide(big(2)).min(big(1000000)).intValueExact();
    }

    int sour(long grams) {
        if (grams < 0) return -1;
        for (int minute = 0; minute < acidAtEnd.size(); minute++) {
            if (acidAtEnd.get(minute).compareTo(big(grams)) > 0) return minute;
        }
        return -1;
    }

    boolean load(int kind, int grams, int cents, int gas) {
        if (!in(kind, 0, 3) || !in(grams, 1, 100000) || !in(cents, 0, 100000) || !in(gas, 0, 100000)) return false;
        loads[kind] = new Load(grams, cents, gas);
        return true;
    }

    int plan(int wanted) {
        if (!in(wanted, 0, 1000000)) return -1;
        int least = -1;
        for (int code = 0; code < 10000; code++) {
            int[] times = {code / 1000, code / 100 % 10, code / 10 % 10, code % 10};
            int cost = costOf(times, wanted);
            if (cost >= 0 && (least < 0 || cost < least)) {
                least = cost;
                plan = times;
            }
        }
        return least;
    }

    private int costOf(int[] times, int wanted) {
        int cost = 0;
        int gas = 0;
        for (int kind = 0; kind < 4; kind++) {
            if (times[kind] > 0 && loads[kind] == null) return -1;
            if (times[kind] == 0) continue;
            cost += times[kind] * loads[kind].cents;
            gas += times[kind] * loads[kind].gas;
        }
        return gas >= wanted ? cost : -1;
    }

    int planned(int kind) {
        return plan != null && in(kind, 0, 3) ? plan[kind] : -1;
    }

    int serve() {
        if (plan == null) return -1;
        int all = plan[0] + plan[1] + plan[2] + plan[3];
        if (acidAtEnd.size() + all - 1 > 9999 || told.size() + all > 30) return -1;
        int minute = acidAtEnd.size();
        for (int kind = 0; kind < 4; kind++) {
            for (int i = 0; i < plan[kind]; i++) told.add(new Stuff(minute++, kind, loads[kind].grams));
        }
        return all;
    }
}
