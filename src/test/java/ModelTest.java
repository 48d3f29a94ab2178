import java.util.Random;

/** All promises: runs of 512 calls, chosen by fixed seeds, answered as the model answers. */
public final class ModelTest {
    private static final int RUNS = 1200;
    private static final int CALLS = 512;

    public static void main(String[] args) {
        Due due = new Due();
        for (int seed = 0; seed < RUNS && !due.anyWrong(); seed++) {
            oneRun(due, seed);
        }
        due.end();
    }

    private static void oneRun(Due due, int seed) {
        Random random = new Random(seed);
        DigesterRates x = new DigesterRates();
        Model m = new Model();
        // Some runs are of large amounts, some of small ones, where rounding shows.
        int size = new int[] {20, 3000, 100000, 1000000}[seed % 4];
        int longest = new int[] {3, 40, 1000}[seed % 3];
        for (int call = 0; call < CALLS && !due.anyWrong(); call++) {
            if (random.nextBoolean()) {
                ask(due, seed + "/" + call, random, x, m);
            } else {
                change(due, seed + "/" + call, random, x, m, size, longest);
            }
        }
    }

    /** A number of least .. most, now and then one of the edges or beyond them. */
    private static int pick(Random random, int least, int most) {
        switch (random.nextInt(40)) {
            case 0: return least - 1;
            case 1: return most + 1;
            case 2: return least;
            case 3: return most;
            case 4: return random.nextInt();
            default: return least + random.nextInt(most - least + 1);
        }
    }

    private static void change(Due due, String at, Random random, DigesterRates x, Model m, int size, int longest) {
        int a = pick(random, 0, 3);
        int b = pick(random, 0, 2);
        int c = pick(random, 0, size);
        switch (random.nextInt(14)) {
            case 0, 1 -> {
                int share = pick(random, 0, random.nextBoolean() ? 1000 : 300);
                due.same(at + " kind(" + a + ", " + b + ", " + share + ")",
                        x.kind(a, b, share) ? 1 : 0, m.kind(a, b, share) ? 1 : 0);
            }
            case 2 -> due.same(at + " start(" + a + ", " + c + ")", x.start(a, c) ? 1 : 0, m.start(a, c) ? 1 : 0);
            case 3 -> {
                int minute = random.nextInt(4) == 0 ? pick(random, 0, 9999) : m.minutesRan() + random.nextInt(8) - 1;
                int grams = pick(random, 1, Math.min(size, 100000));
                due.same(at + " feed(" + minute + ", " + a + ", " + grams + ")",
                        x.feed(minute, a, grams) ? 1 : 0, m.feed(minute, a, grams) ? 1 : 0);
            }
            case 4, 5 -> {
                int rate = pick(random, 0, random.nextInt(3) == 0 ? 1000000 : 50000);
                due.same(at + " rate(" + b + ", " + rate + ")", x.rate(b, rate) ? 1 : 0, m.rate(b, rate) ? 1 : 0);
            }
            case 6 -> {
                int bound = pick(random, 1, random.nextBoolean() ? size : 1000000000);
                due.same(at + " bound(" + bound + ")", x.bound(bound) ? 1 : 0, m.bound(bound) ? 1 : 0);
            }
            case 7 -> {
                int room = pick(random, 0, random.nextBoolean() ? size : 1000000000);
                due.same(at + " room(" + room + ")", x.room(room) ? 1 : 0, m.room(room) ? 1 : 0);
            }
            case 8 -> {
                int r = pick(random, 0, random.nextBoolean() ? 9 : 2);
                int need = pick(random, 0, Math.max(1, size / 20));
                due.same(at + " rank(" + r + ", " + need + ")", x.rank(r, need), m.rank(r, need));
            }
            case 9, 10 -> {
                int minutes = pick(random, 1, longest);
                due.same(at + " run(" + minutes + ")", x.run(minutes), m.run(minutes));
            }
            case 11 -> {
                int grams = pick(random, 1, 100000);
                int cents = pick(random, 0, random.nextBoolean() ? 6 : 100000);
                int gas = pick(random, 0, random.nextBoolean() ? 6 : 100000);
                due.same(at + " load(" + a + ", " + grams + ", " + cents + ", " + gas + ")",
                        x.load(a, grams, cents, gas) ? 1 : 0, m.load(a, grams, cents, gas) ? 1 : 0);
            }
            case 12 -> {
                int wanted = pick(random, 0, new int[] {5, 40, 200, 1000000}[random.nextInt(4)]);
                due.same(at + " plan(" + wanted + ")", x.plan(wanted), m.plan(wanted));
            }
            default -> due.same(at + " serve()", x.serve(), m.serve());
        }
    }

    private static void ask(Due due, String at, Random random, DigesterRates x, Model m) {
        int what = pick(random, 0, 4);
        switch (random.nextInt(7)) {
            case 0 -> due.same(at + " at(" + what + ")", x.at(what), m.at(what));
            case 1 -> due.same(at + " given(" + what + ")", x.given(what), m.given(what));
            case 2 -> due.same(at + " gone(" + what + ")", x.gone(what), m.gone(what));
            case 3 -> due.same(at + " balance(" + what + ")", x.balance(what), m.balance(what));
            case 4 -> due.same(at + " acid()", x.acid(), m.acid());
            case 5 -> due.same(at + " planned(" + what + ")", x.planned(what), m.planned(what));
            default -> {
                long highest = Math.max(1, 2 * m.at(2));
                long grams = random.nextInt(10) == 0
                        ? random.nextLong() : Math.floorMod(random.nextLong(), highest) - 1;
                due.same(at + " sour(" + grams + ")", x.sour(grams), m.sour(grams));
            }
        }
    }
}
