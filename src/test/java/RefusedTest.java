import java.util.ArrayList;
import java.util.List;

/**
 * "A call that is refused changes nothing": of two objects that were made alike, one is told a call that
 * is refused; then both answer alike whatever they are asked and told.
 */
public final class RefusedTest {
    private static final int MOST_CALLS = 512;
    /** More than any state needs to be made. */
    private static final int CALLS_TO_MAKE = 100;

    public static void main(String[] args) {
        Due due = new Due();
        for (State state : State.values()) {
            statesAreAsTold(due, state);
            for (Call refused : refusals(state)) {
                changesNothing(due, state, refused);
            }
            for (Call asked : questions()) {
                answersAlone(due, state, asked);
            }
        }
        due.end();
    }

    private static void statesAreAsTold(Due due, State state) {
        for (int user = 0; user < 5; user++) {
            due.same(state + ": given(" + user + ") is NONE", state.make().given(user) == -1 ? 1 : 0,
                    user < state.users ? 0 : 1);
        }
        due.same(state + ": run(1)", state.make().run(1), state.nextMinute == 10000 ? -1 : state.nextMinute + 1);
    }

    private static List<Call> refusals(State state) {
        List<Call> calls = new ArrayList<>(state.refusals());
        for (Ranges ranges : Ranges.all(state.nextMinute, state.users)) {
            calls.addAll(ranges.beyond());
        }
        calls.add(Call.of("sour", -1));
        calls.add(Call.of("sour", Long.MIN_VALUE));
        return calls;
    }

    private static void changesNothing(Due due, State state, Call refused) {
        for (List<Call> later : allThatCanBeCalledLater(state)) {
            DigesterRates told = state.make();
            due.same(state + ": " + refused, refused.on(told), refused.refusal());
            goesOnAlike(due, state + " after " + refused, told, state.make(), later);
            if (due.anyWrong()) {
                return;
            }
        }
    }

    /** A call that only asks changes nothing either, whatever it answers. */
    private static void answersAlone(Due due, State state, Call asked) {
        for (List<Call> later : allThatCanBeCalledLater(state)) {
            DigesterRates told = state.make();
            due.same(state + ": " + asked + " again", asked.on(told), asked.on(told));
            goesOnAlike(due, state + " after " + asked, told, state.make(), later);
            if (due.anyWrong()) {
                return;
            }
        }
    }

    private static void goesOnAlike(Due due, String when, DigesterRates told, DigesterRates spared,
            List<Call> later) {
        due.yes("the calls are few enough", later.size() + CALLS_TO_MAKE <= MOST_CALLS);
        for (Call call : later) {
            due.same(when + ", then " + call, call.on(told), call.on(spared));
        }
    }

    private static List<Call> questions() {
        List<Call> calls = new ArrayList<>();
        for (int i = 0; i < 4; i++) {
            calls.add(Call.of("at", i));
            calls.add(Call.of("given", i));
            calls.add(Call.of("planned", i));
        }
        for (int what = 0; what < 5; what++) {
            calls.add(Call.of("gone", what));
        }
        calls.add(Call.of("balance", 0));
        calls.add(Call.of("balance", 1));
        calls.add(Call.of("acid"));
        for (int grams : new int[] {0, 777, 300000, 402000, 410000, 450000, 600000}) {
            calls.add(Call.of("sour", grams));
        }
        return calls;
    }

    /** Each list is for a new pair: what stands inside shows only by calls that change it. */
    private static List<List<Call>> allThatCanBeCalledLater(State state) {
        List<List<Call>> all = new ArrayList<>(List.of(minutes(state), stuff(state), shares(), places(), plans()));
        for (int kind = 0; kind < 4; kind++) {
            all.add(loadOf(kind));
        }
        return all;
    }

    /** Rates, bound, room, users and what is told show while minutes run. */
    private static List<Call> minutes(State state) {
        List<Call> calls = new ArrayList<>(questions());
        calls.add(Call.of("start", 1, 100000));
        calls.add(Call.of("start", 2, 5000));
        for (int minutes : new int[] {1, 1, 8, 90, Math.max(1, Math.min(1000, 9900 - state.nextMinute))}) {
            calls.add(Call.of("run", minutes));
            calls.addAll(questions());
        }
        calls.add(Call.of("serve"));
        calls.add(Call.of("run", 40));
        calls.addAll(questions());
        return calls;
    }

    /** Kinds show by what comes in of them, when nothing breaks. */
    private static List<Call> stuff(State state) {
        List<Call> calls = new ArrayList<>();
        for (int k = 0; k < 3; k++) {
            calls.add(Call.of("rate", k, 0));
        }
        for (int kind = 0; kind < 4; kind++) {
            calls.add(Call.of("feed", state.nextMinute + kind, kind, 1000));
        }
        for (int i = 0; i < 5; i++) {
            calls.add(Call.of("run", 1));
            for (int part = 0; part < 4; part++) {
                calls.add(Call.of("at", part));
            }
        }
        return calls;
    }

    /** Shares show by what still fits beside them. */
    private static List<Call> shares() {
        List<Call> calls = new ArrayList<>();
        for (int kind = 0; kind < 4; kind++) {
            for (int part = 0; part < 3; part++) {
                int mine = State.share(kind, part);
                int all = State.share(kind, 0) + State.share(kind, 1) + State.share(kind, 2);
                calls.add(Call.of("kind", kind, part, 1001 - all + mine));
                calls.add(Call.of("kind", kind, part, 1000 - all + mine));
                calls.add(Call.of("kind", kind, part, mine));
            }
        }
        return calls;
    }

    /** How many are told and how many users there are show by how many more there may be. */
    private static List<Call> places() {
        List<Call> calls = new ArrayList<>();
        for (int i = 0; i < 31; i++) {
            calls.add(Call.of("feed", 9999, i % 4, 1));
        }
        for (int i = 0; i < 5; i++) {
            calls.add(Call.of("rank", i, 1));
        }
        return calls;
    }

    private static List<Call> plans() {
        List<Call> calls = new ArrayList<>(List.of(Call.of("serve"), Call.of("serve")));
        int[] wanted = {0, 1, 9, 10, 11, 12, 13, 14, 25, 90, 91, 117, 118, 200, 216, 217, 297, 298, 414, 415, 1000000};
        for (int gas : wanted) {
            calls.add(Call.of("plan", gas));
            for (int kind = 0; kind < 4; kind++) {
                calls.add(Call.of("planned", kind));
            }
        }
        return calls;
    }

    /** A load shows by itself when the other kinds bring nothing. */
    private static List<Call> loadOf(int kind) {
        List<Call> calls = new ArrayList<>();
        for (int other = 0; other < 4; other++) {
            if (other != kind) {
                calls.add(Call.of("load", other, 1, 100000, 0));
            }
        }
        int most = 9 * (State.GAS + kind);
        for (int gas : new int[] {most + 1, most, 1}) {
            calls.add(Call.of("plan", gas));
            calls.add(Call.of("planned", kind));
        }
        calls.add(Call.of("serve"));
        calls.add(Call.of("run", 1));
        calls.add(Call.of("gone", 0));
        return calls;
    }
}
