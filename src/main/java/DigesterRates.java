import java.util.Arrays;

/**
 * A digester, minute by minute in whole units: stuff of kinds that is fed, parts that break one
 * into the other, slowed by acid, gas that is stored, given to users by ranks and flared,
 * sourness by halving, cheapest plans of feeding.
 */
public final class DigesterRates {
    public static final int NONE = -1;

    private static final int PARTS = 4;
    private static final int SLOW = 0;
    private static final int QUICK = 1;
    private static final int ACID = 2;
    private static final int REST = 3;
    /** Parts 0 to 2: those that have a share, and those that a step breaks. */
    private static final int SHARED_PARTS = 3;
    private static final int KINDS = 4;

    private static final int THOUSAND = 1000;
    private static final int MILLION = 1000000;
    private static final int BILLION = 1000000000;

    /** Minutes are 0 to one less than this. */
    private static final int MINUTES = 10000;
    private static final int MOST_MINUTES_A_RUN = 1000;
    private static final int MOST_TOLD = 30;
    private static final int MOST_GRAMS = 100000;
    private static final int MOST_CENTS = 100000;
    private static final int MOST_GAS = 100000;
    private static final int MOST_USERS = 4;
    private static final int LAST_RANK = 9;
    private static final int MOST_TIMES = 9;

    private final Shares shares;
    private final Told told;
    private final Tank tank;
    private final GasStore store;
    private final AcidPeaks peaks;
    private final Planner planner;
    private int nextMinute;

    public DigesterRates() {
        shares = new Shares();
        told = new Told();
        tank = new Tank();
        store = new GasStore();
        peaks = new AcidPeaks();
        planner = new Planner();
        nextMinute = 0;
    }

    public boolean kind(int kind, int part, int thousandths) {
        if (!isKind(kind) || !within(part, 0, SHARED_PARTS - 1) || !within(thousandths, 0, THOUSAND)) {
            return false;
        }
        return shares.change(kind, part, thousandths);
    }

    public boolean start(int part, int grams) {
        if (!isPart(part) || !within(grams, 0, MILLION)) {
            return false;
        }
        if (tank.grams[part] + grams > BILLION) {
            return false;
        }
        tank.bring(part, grams);
        return true;
    }

    public boolean feed(int minute, int kind, int grams) {
        if (!within(minute, nextMinute, MINUTES - 1) || !isKind(kind) || !within(grams, 1, MOST_GRAMS)) {
            return false;
        }
        if (!told.hasRoomFor(1)) {
            return false;
        }
        told.add(minute, kind, grams);
        return true;
    }

    public boolean rate(int k, int millionths) {
        if (!within(k, 0, SHARED_PARTS - 1) || !within(millionths, 0, MILLION)) {
            return false;
        }
        tank.rates[k] = millionths;
        return true;
    }

    public boolean bound(int grams) {
        if (!within(grams, 1, BILLION)) {
            return false;
        }
        tank.slowingBound = grams;
        return true;
    }

    public boolean room(int v) {
        if (!within(v, 0, BILLION)) {
            return false;
        }
        store.most = v;
        return true;
    }

    public int rank(int r, int need) {
        if (!within(r, 0, LAST_RANK) || !within(need, 0, MILLION)) {
            return NONE;
        }
        return store.addUser(r, need);
    }

    public int run(int minutes) {
        if (!within(minutes, 1, MOST_MINUTES_A_RUN) || nextMinute + minutes > MINUTES) {
            return NONE;
        }
        peaks.makeRoomFor(minutes);
        for (int i = 0; i < minutes; i++) {
            passMinute();
        }
        return nextMinute;
    }

    public long at(int part) {
        return isPart(part) ? tank.grams[part] : NONE;
    }

    public long given(int user) {
        return within(user, 0, store.users - 1) ? store.givenTo[user] : NONE;
    }

    public long gone(int what) {
        switch (what) {
            case 0: return tank.cameIn;
            case 1: return tank.gasMade;
            case 2: return store.givenInAll;
            case 3: return store.flared;
            case 4: return store.held;
            default: return NONE;
        }
    }

    public long balance(int what) {
        switch (what) {
            case 0: return tank.cameIn - tank.allParts() - tank.gasMade;
            case 1: return tank.gasMade - store.held - store.givenInAll - store.flared;
            default: return NONE;
        }
    }

    public int acid() {
        return tank.sourness();
    }

    public int sour(long grams) {
        return grams < 0 ? NONE : peaks.firstAbove(grams);
    }

    public boolean load(int kind, int grams, int cents, int gas) {
        if (!isKind(kind) || !within(grams, 1, MOST_GRAMS)
                || !within(cents, 0, MOST_CENTS) || !within(gas, 0, MOST_GAS)) {
            return false;
        }
        planner.setLoad(kind, grams, cents, gas);
        return true;
    }

    public int plan(int wanted) {
        return within(wanted, 0, MILLION) ? planner.find(wanted) : NONE;
    }

    public int planned(int kind) {
        return isKind(kind) && planner.found ? planner.times[kind] : NONE;
    }

    public int serve() {
        if (!planner.found) {
            return NONE;
        }
        int loads = planner.loadsInAll();
        if (nextMinute + loads > MINUTES || !told.hasRoomFor(loads)) {
            return NONE;
        }
        int minute = nextMinute;
        for (int kind = 0; kind < KINDS; kind++) {
            for (int i = 0; i < planner.times[kind]; i++) {
                told.add(minute, kind, planner.grams[kind]);
                minute++;
            }
        }
        return loads;
    }

    private void passMinute() {
        takeInTold();
        store.passGas(tank.breakDown());
        peaks.add(tank.grams[ACID]);
        nextMinute++;
    }

    private void takeInTold() {
        for (int i = 0; i < told.count; i++) {
            if (told.minutes[i] == nextMinute) {
                takeIn(told.kinds[i], told.grams[i]);
            }
        }
    }

    /** The kind's shares are those of the minute in which the stuff comes in, not of the telling. */
    private void takeIn(int kind, long grams) {
        long left = grams;
        for (int part = 0; part < SHARED_PARTS; part++) {
            long share = thousandthsOf(grams, shares.of(kind, part));
            tank.bring(part, share);
            left -= share;
        }
        tank.bring(REST, left);
    }

    private static boolean within(int value, int least, int most) {
        return value >= least && value <= most;
    }

    private static boolean isKind(int kind) {
        return within(kind, 0, KINDS - 1);
    }

    private static boolean isPart(int part) {
        return within(part, 0, PARTS - 1);
    }

    private static long thousandthsOf(long n, long x) {
        return n * x / THOUSAND;
    }

    private static long millionthsOf(long n, long x) {
        return n * x / MILLION;
    }

    /** What shares of parts 0 to 2 the kinds have; the rest of a kind is part 3. */
    private static final class Shares {
        private final int[] thousandths = new int[KINDS * SHARED_PARTS];

        int of(int kind, int part) {
            return thousandths[kind * SHARED_PARTS + part];
        }

        boolean change(int kind, int part, int share) {
            int together = share - of(kind, part);
            for (int each = 0; each < SHARED_PARTS; each++) {
                together += of(kind, each);
            }
            if (together > THOUSAND) {
                return false;
            }
            thousandths[kind * SHARED_PARTS + part] = share;
            return true;
        }
    }

    /** The stuff that was told for minutes. It stays when it has come in: all count to the limit. */
    private static final class Told {
        private final int[] minutes = new int[MOST_TOLD];
        private final int[] kinds = new int[MOST_TOLD];
        private final int[] grams = new int[MOST_TOLD];
        private int count;

        boolean hasRoomFor(int more) {
            return count + more <= MOST_TOLD;
        }

        void add(int minute, int kind, int amount) {
            if (!hasRoomFor(1)) {
                return;
            }
            minutes[count] = minute;
            kinds[count] = kind;
            grams[count] = amount;
            count++;
        }
    }

    /** The parts, and the steps that break them. */
    private static final class Tank {
        private static final int MOST_SOURNESS = MILLION;
        /** The greatest power of two that is not above MOST_SOURNESS. */
        private static final int FIRST_JUMP = 1 << 19;

        private final long[] grams = new long[PARTS];
        /** Step k breaks part k. */
        private final int[] rates = new int[SHARED_PARTS];
        private int slowingBound = BILLION;
        private long cameIn;
        private long gasMade;

        void bring(int part, long amount) {
            grams[part] += amount;
            cameIn += amount;
        }

        /** Answers the gas. All steps go by the parts as they were before any of them. */
        long breakDown() {
            long speed = speed();
            long toQuick = broken(SLOW, speed);
            long toAcid = broken(QUICK, speed);
            long toGas = broken(ACID, speed);
            grams[SLOW] -= toQuick;
            grams[QUICK] += toQuick - toAcid;
            grams[ACID] += toAcid - toGas;
            gasMade += toGas;
            return toGas;
        }

        /** In thousandths. Grams are never below 0, so a bound above them divides, and leaves 1 or more. */
        private long speed() {
            if (grams[ACID] >= slowingBound) {
                return 0;
            }
            return THOUSAND - THOUSAND * grams[ACID] / slowingBound;
        }

        private long broken(int part, long speed) {
            return thousandthsOf(millionthsOf(grams[part], rates[part]), speed);
        }

        long allParts() {
            long all = 0;
            for (int part = 0; part < PARTS; part++) {
                all += grams[part];
            }
            return all;
        }

        int sourness() {
            int y = 0;
            for (int jump = FIRST_JUMP; jump > 0; jump >>= 1) {
                if (isSour(y + jump)) {
                    y += jump;
                }
            }
            return y;
        }

        private boolean isSour(long y) {
            return y <= MOST_SOURNESS && y * y + y * grams[REST] <= THOUSAND * grams[ACID];
        }
    }

    /** The store of gas, and its users. */
    private static final class GasStore {
        private final int[] ranks = new int[MOST_USERS];
        private final int[] needs = new int[MOST_USERS];
        private final long[] givenTo = new long[MOST_USERS];
        /** The users' numbers, in the order in which they take. */
        private final int[] order = new int[MOST_USERS];
        private int users;
        private int most;
        private long held;
        private long givenInAll;
        private long flared;

        int addUser(int rank, int need) {
            if (users >= MOST_USERS) {
                return NONE;
            }
            int user = users;
            ranks[user] = rank;
            needs[user] = need;
            // Behind those of its own rank, for their numbers are less.
            int place = user;
            for (; place > 0 && ranks[order[place - 1]] > rank; place--) {
                order[place] = order[place - 1];
            }
            order[place] = user;
            users++;
            return user;
        }

        void passGas(long gas) {
            held += gas;
            for (int i = 0; i < users; i++) {
                giveTo(order[i]);
            }
            long above = Math.max(0L, held - most);
            held -= above;
            flared += above;
        }

        private void giveTo(int user) {
            long taken = Math.min(needs[user], held);
            held -= taken;
            givenTo[user] += taken;
            givenInAll += taken;
        }
    }

    /** For each minute that ran: the most acid at the end of it or of one before. */
    private static final class AcidPeaks {
        private static final int FIRST_LENGTH = 64;
        /** All jumps together are more than there are minutes. */
        private static final int FIRST_JUMP = 1 << 13;

        /** It grows, since few objects run all the minutes. */
        private long[] peaks = new long[FIRST_LENGTH];
        private int count;

        void makeRoomFor(int more) {
            int needed = count + more;
            if (needed > peaks.length) {
                peaks = Arrays.copyOf(peaks, Math.max(needed, Math.min(MINUTES, 2 * peaks.length)));
            }
        }

        void add(long grams) {
            if (count >= peaks.length) {
                return;
            }
            peaks[count] = count == 0 ? grams : Math.max(grams, peaks[count - 1]);
            count++;
        }

        /** Peaks never fall, so the minutes that are not above come first, and can be halved. */
        int firstAbove(long grams) {
            int passed = 0;
            for (int jump = FIRST_JUMP; jump > 0; jump >>= 1) {
                int place = passed + jump;
                if (place <= count && peaks[place - 1] <= grams) {
                    passed = place;
                }
            }
            return passed < count ? passed : NONE;
        }
    }

    /** The loads, and the plan that was found last. */
    private static final class Planner {
        private static final int LAST_KIND = KINDS - 1;

        /** 0 for a load that is not told. */
        private final int[] grams = new int[KINDS];
        private final int[] cents = new int[KINDS];
        private final int[] gas = new int[KINDS];
        private final int[] times = new int[KINDS];
        private boolean found;

        void setLoad(int kind, int itsGrams, int itsCents, int itsGas) {
            grams[kind] = itsGrams;
            cents[kind] = itsCents;
            gas[kind] = itsGas;
        }

        int loadsInAll() {
            int all = 0;
            for (int kind = 0; kind < KINDS; kind++) {
                all += times[kind];
            }
            return all;
        }

        /**
         * Goes through the plans, the first ones first, so that only a cheaper one replaces one.
         * Of the last kind only the fewest loads are tried: more never cost less.
         */
        int find(int wanted) {
            int least = NONE;
            for (int a = 0; a <= mostTimes(0); a++) {
                for (int b = 0; b <= mostTimes(1); b++) {
                    for (int c = 0; c <= mostTimes(2); c++) {
                        int d = fewestOfLast(wanted - sum(gas, a, b, c));
                        int cost = d == NONE ? NONE : sum(cents, a, b, c) + d * cents[LAST_KIND];
                        if (cost != NONE && (least == NONE || cost < least)) {
                            least = cost;
                            keep(a, b, c, d);
                        }
                    }
                }
            }
            return least;
        }

        private int mostTimes(int kind) {
            return grams[kind] > 0 ? MOST_TIMES : 0;
        }

        private static int sum(int[] row, int a, int b, int c) {
            return a * row[0] + b * row[1] + c * row[2];
        }

        /** How often the last kind is fed at least to bring what lacks; NONE when it can't. */
        private int fewestOfLast(int lacking) {
            if (lacking <= 0) {
                return 0;
            }
            int each = gas[LAST_KIND];
            if (each <= 0) {
                return NONE;
            }
            int fewest = (lacking + each - 1) / each;
            return fewest <= MOST_TIMES ? fewest : NONE;
        }

        private void keep(int a, int b, int c, int d) {
            times[0] = a;
            times[1] = b;
            times[2] = c;
            times[LAST_KIND] = d;
            found = true;
        }
    }
}
