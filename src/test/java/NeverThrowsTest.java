import java.util.Random;

/** Rule 7 of LANGUAGE.md: no call throws or fails to end, for any arguments, also long after the 512th call. */
public final class NeverThrowsTest {
    private static final String[] NAMES = {"kind", "start", "feed", "rate", "bound", "room", "rank", "run", "at",
        "given", "gone", "balance", "acid", "sour", "load", "plan", "planned", "serve"};
    private static final int[] NUMBERS_OF = {3, 2, 3, 2, 1, 1, 2, 1, 1, 1, 1, 1, 0, 1, 4, 1, 1, 0};
    /** All edges that the document names, with those of Java's own numbers. */
    private static final long[] EDGES = {0, 1, 2, 3, 4, 5, 9, 10, 29, 30, 31, 999, 1000, 1001, 9999, 10000, 99999,
        100000, 100001, 999999, 1000000, 1000001, 999999999, 1000000000, 1000000001, 1073741824, 2147483646,
        2147483647};
    private static final int CALLS = 40000;
    private static int thrown = 0;

    public static void main(String[] args) {
        Due due = new Due();
        for (int seed = 0; seed < 40; seed++) {
            calls(seed);
        }
        minuteByMinute();
        asMuchAsStartTakes();
        due.same("calls that threw", thrown, 0);
        due.end();
    }

    private static void calls(int seed) {
        Random random = new Random(seed);
        DigesterRates x = new DigesterRates();
        for (int i = 0; i < CALLS; i++) {
            int which = random.nextInt(NAMES.length);
            long[] numbers = new long[NUMBERS_OF[which]];
            for (int place = 0; place < numbers.length; place++) {
                numbers[place] = number(random);
            }
            // Few runs are long, or all minutes were over before the object has seen much.
            if (NAMES[which].equals("run") && numbers[0] > 3 && random.nextInt(20) > 0) {
                numbers[0] = random.nextInt(4);
            }
            tell(seed + "/" + i, x, Call.of(NAMES[which], numbers));
        }
        for (long grams : new long[] {Long.MIN_VALUE, Long.MIN_VALUE + 1, Long.MAX_VALUE - 1, Long.MAX_VALUE}) {
            tell(seed + " at its end", x, Call.of("sour", grams));
        }
    }

    private static long number(Random random) {
        long edge = EDGES[random.nextInt(random.nextBoolean() ? 5 : EDGES.length)];
        switch (random.nextInt(12)) {
            case 0: return -edge;
            case 1: return -edge - 1;
            case 2: return random.nextInt();
            default: return edge;
        }
    }

    private static void minuteByMinute() {
        DigesterRates x = new DigesterRates();
        tell("minute by minute", x, Call.of("start", 1, 1000000));
        tell("minute by minute", x, Call.of("rate", 1, 1000));
        for (int i = 0; i < 10010; i++) {
            tell("minute by minute", x, Call.of("run", 1));
            tell("minute by minute", x, Call.of("sour", 37L * i));
        }
    }

    private static void asMuchAsStartTakes() {
        DigesterRates x = new DigesterRates();
        for (int i = 0; i < 1100; i++) {
            for (int part = 0; part < 4; part++) {
                tell("as much as it takes", x, Call.of("start", part, 1000000));
                tell("as much as it takes", x, Call.of("acid"));
            }
        }
        for (int k = 0; k < 3; k++) {
            tell("as much as it takes", x, Call.of("rate", k, 1000000));
        }
        for (int i = 0; i < 12; i++) {
            tell("as much as it takes", x, Call.of("run", 1000));
        }
    }

    private static void tell(String when, DigesterRates x, Call call) {
        try {
            call.on(x);
        } catch (RuntimeException | StackOverflowError machine) {
            thrown++;
            System.out.println(when + ": " + call + " threw " + machine);
        }
    }
}
