import java.util.ArrayList;
import java.util.List;

/** Which numbers the document calls such, for each int argument of a call: least and most. */
record Ranges(Call ordinary, long[][] edges) {

    /** Of all calls. Two ranges go by the object: which minute is next, and how many users it has. */
    static List<Ranges> all(int nextMinute, int users) {
        return List.of(
                of(Call.of("kind", 1, 1, 150), 0, 3, 0, 2, 0, 1000),
                of(Call.of("start", 2, 777), 0, 3, 0, 1000000),
                of(Call.of("feed", nextMinute, 1, 888), nextMinute, 9999, 0, 3, 1, 100000),
                of(Call.of("rate", 1, 98765), 0, 2, 0, 1000000),
                of(Call.of("bound", 4321), 1, 1000000000),
                of(Call.of("room", 43), 0, 1000000000),
                of(Call.of("rank", 0, 17), 0, 9, 0, 1000000),
                of(Call.of("run", 3), 1, 1000),
                of(Call.of("at", 2), 0, 3),
                of(Call.of("given", 0), 0, users - 1),
                of(Call.of("gone", 1), 0, 4),
                of(Call.of("balance", 0), 0, 1),
                of(Call.of("load", 1, 99, 3, 7), 0, 3, 1, 100000, 0, 100000, 0, 100000),
                of(Call.of("plan", 25), 0, 1000000),
                of(Call.of("planned", 1), 0, 3));
    }

    private static Ranges of(Call ordinary, long... leastAndMost) {
        if (leastAndMost.length != 2 * ordinary.length()) {
            throw new IllegalStateException(ordinary + " needs a range for each number");
        }
        long[][] edges = new long[ordinary.length()][];
        for (int place = 0; place < edges.length; place++) {
            edges[place] = new long[] {leastAndMost[2 * place], leastAndMost[2 * place + 1]};
        }
        return new Ranges(ordinary, edges);
    }

    /** The call with ordinary numbers, with the least ones, and with the greatest ones. */
    private List<Call> bases() {
        Call least = ordinary;
        Call most = ordinary;
        for (int place = 0; place < edges.length; place++) {
            least = least.with(place, edges[place][0]);
            most = most.with(place, edges[place][1]);
        }
        return List.of(ordinary, least, most);
    }

    /** One number is one below its range, one beyond it, or the least or the greatest int. */
    List<Call> beyond() {
        List<Call> calls = new ArrayList<>();
        for (Call base : bases()) {
            for (int place = 0; place < edges.length; place++) {
                calls.add(base.with(place, edges[place][0] - 1));
                calls.add(base.with(place, edges[place][1] + 1));
                calls.add(base.with(place, Integer.MIN_VALUE));
                calls.add(base.with(place, Integer.MAX_VALUE));
            }
        }
        return calls;
    }

    /** One number is at an edge of its range, or one inside of it. */
    List<Call> inside() {
        List<Call> calls = new ArrayList<>();
        for (Call base : bases()) {
            for (int place = 0; place < edges.length; place++) {
                calls.add(base.with(place, edges[place][0]));
                calls.add(base.with(place, edges[place][0] + 1));
                calls.add(base.with(place, edges[place][1] - 1));
                calls.add(base.with(place, edges[place][1]));
            }
        }
        return calls;
    }
}
