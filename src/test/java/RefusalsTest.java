import java.util.ArrayList;
import java.util.HashMap;
import java.util.List;
import java.util.Map;
import java.util.function.Consumer;
import java.util.function.Function;
import java.util.stream.IntStream;

/**
 * 'REFUSALS change nothing and answer, the first that fits'. Every call that names a refusal is made
 * with all joinings of numbers at and beyond its bounds, in states that are empty, half full and
 * full: it answers by the order of its promise, and where it refused, all that can be asked for
 * afterwards is what a twin answers that never had the call.
 */
public final class RefusalsTest {
    private static final int LEAST = Calls.LEAST_INT;
    private static final int GREATEST = Calls.GREATEST_INT;
    private static final int[] NUMBERS = {LEAST, -1, 0, 9, 10, 30, 31, GREATEST};
    private static final int[] PLACES = {LEAST, -1, 0, 29, 30, GREATEST};
    private static final int[] SETS = {LEAST, -1, 0, 1, 1023, 1024, GREATEST};
    private static final int[] KINDS = {LEAST, -1, 0, 1, 2, 3, 4, 5, 6, 7, 8, 9, 10, 11, GREATEST};

    /** How a state is made, and how many asks and slots it then has. */
    private record State(String name, Consumer<Calls> made, int asks, int slots, boolean hasChoice) {
        Calls make() {
            Calls x = new Calls();
            made.accept(x);
            return x;
        }

        /** An ask's number at and beyond the bounds. */
        int[] asksAround() {
            return IntStream.of(LEAST, -1, 0, asks - 1, asks, 30, GREATEST).distinct().toArray();
        }

        int[] slotsAround() {
            return IntStream.of(LEAST, -1, 0, slots - 1, slots, 4, GREATEST).distinct().toArray();
        }

        boolean isAsk(int ask) {
            return ask >= 0 && ask < asks;
        }
    }

    private static final List<State> STATES = List.of(
            new State("new", x -> { }, 0, 0, false),
            new State("half full", RefusalsTest::halfFull, 13, 2, true),
            new State("without a choice", RefusalsTest::withoutChoice, 1, 1, false),
            new State("full", RefusalsTest::full, 30, 4, true));

    /** What a state answers that never had the refused call. */
    private static final Map<String, List<Calls.Answer>> TWINS = new HashMap<>();

    public static void main(String[] args) {
        for (State state : STATES) {
            putIn(state);
            askIn(state);
            countsIn(state);
            intervalsIn(state);
            slotIn(state);
            slopsIn(state);
            noneIn(state);
        }
        Calls.endOfTests();
    }

    /** Asks of all kinds, so that a change of any of them shows. */
    private static void halfFull(Calls x) {
        x.text(1, 2, 0, 3, 4, 0, 1, 0, 0, 2, 4, 1, 2);
        x.put(29, 1023);
        x.terms(3);
        for (int kind = 1; kind <= 10; kind++) {
            x.ask(kind, kind % 3, (kind + 1) % 3, kind + 2).is(kind + 2);
        }
        x.slot(0, 1).is(0);
        x.slot(2, 6).is(1);
    }

    private static void withoutChoice(Calls x) {
        x.fill(3, 5, 2).ask(0, 0, 0, 1).is(0);
        x.slot(0, 1).is(0);
    }

    private static void full(Calls x) {
        for (int place = 0; place < 30; place++) {
            x.put(place, 1 + place * 34);
        }
        x.terms(10);
        for (int ask = 10; ask < 30; ask++) {
            x.ask(1 + ask % 10, ask - 10, ask - 9, ask % 7).is(ask);
        }
        for (int slot = 0; slot < 4; slot++) {
            x.slot(3 * slot, 3 << slot).is(slot);
        }
    }

    /** The answer that is due, and, if it is a refusal, that nothing changed. */
    private static void due(State state, String promise, Function<Calls, Calls.Answer> call, long want) {
        Calls.test(promise + ", " + state.name, unused -> {
            Calls fresh = state.make();
            Calls.Answer answer = call.apply(fresh);
            answer.is(want);
            if (want < 0) {
                String name = answer.call();
                List<Calls.Answer> twin = TWINS.computeIfAbsent(state.name, any -> afterwards(state, state.make()));
                same(name, afterwards(state, fresh), twin);
                // The same where all was asked for before, so that nothing is left to work out.
                Calls asked = state.make();
                asked.asksAsTheyAre(state.asks);
                asked.phraseAsItIs();
                call.apply(asked).is(want);
                same(name, afterwards(state, asked), twin);
            }
        });
    }

    private static List<Calls.Answer> afterwards(State state, Calls x) {
        List<Calls.Answer> all = new ArrayList<>();
        all.addAll(x.asksAsTheyAre(state.asks));
        all.addAll(x.phraseAsItIs());
        all.addAll(x.takenApart(state.asks));
        return all;
    }

    private static void same(String call, List<Calls.Answer> got, List<Calls.Answer> want) {
        for (int i = 0; i < want.size(); i++) {
            Calls.need(got.get(i).equals(want.get(i)), call + " changed nothing: " + got.get(i) + " for " + want.get(i));
        }
    }

    private static void putIn(State state) {
        for (int place : PLACES) {
            for (int set : SETS) {
                boolean isPlace = place >= 0 && place <= 29;
                boolean isSet = set >= 0 && set <= 1023;
                if (!isPlace || !isSet) {
                    due(state, "2: put: -1, -2", x -> x.put(place, set), !isPlace ? -1 : -2);
                }
            }
        }
    }

    private static void askIn(State state) {
        for (int kind : KINDS) {
            for (int n : NUMBERS) {
                for (int a : state.asksAround()) {
                    for (int b : state.asksAround()) {
                        due(state, "4: ask: -2 KIND, n, -1 a, b, -4", x -> x.ask(kind, a, b, n),
                                dueFromAsk(state, kind, a, b, n));
                    }
                }
            }
        }
    }

    private static long dueFromAsk(State state, int kind, int a, int b, int n) {
        switch (kind) {
            case 0:
                return n < 0 || n > 9 ? -2 : numberOrNoRoom(state);
            case 1, 5, 6, 7:
                return state.isAsk(a) && state.isAsk(b) ? numberOrNoRoom(state) : -1;
            case 2, 3, 4, 8:
                if (n < 0 || n > 30) {
                    return -2;
                }
                return state.isAsk(a) && state.isAsk(b) ? numberOrNoRoom(state) : -1;
            case 9, 10:
                if (n < 0 || n > 30) {
                    return -2;
                }
                return state.isAsk(a) ? numberOrNoRoom(state) : -1;
            default:
                return -2;
        }
    }

    private static long numberOrNoRoom(State state) {
        return state.asks == 30 ? -4 : state.asks;
    }

    private static void countsIn(State state) {
        for (int ask : state.asksAround()) {
            if (!state.isAsk(ask)) {
                due(state, "6: count: -1", x -> x.count(ask), -1);
                due(state, "9: covered: -1", x -> x.covered(ask), -1);
            }
        }
    }

    private static void intervalsIn(State state) {
        for (int ask : state.asksAround()) {
            int size = state.isAsk(ask) ? (int) state.make().count(ask).got() : 0;
            for (int k : new int[] {LEAST, -1, 0, size - 1, size, 30, GREATEST}) {
                if (k < 0 || k >= size) {
                    due(state, "7: begin: -1", x -> x.begin(ask, k), -1);
                    due(state, "8: end: -1", x -> x.end(ask, k), -1);
                }
            }
        }
    }

    private static void slotIn(State state) {
        for (int offset : NUMBERS) {
            for (int set : SETS) {
                boolean fits = offset >= 0 && offset <= 9 && set >= 0 && set <= 1023;
                due(state, "10: slot: -2, -4", x -> x.slot(offset, set),
                        !fits ? -2 : state.slots == 4 ? -4 : state.slots);
            }
        }
    }

    private static void slopsIn(State state) {
        for (int slop : NUMBERS) {
            if (slop < 0 || slop > 9) {
                due(state, "12: matches: -2", x -> x.matches(slop), -2);
                due(state, "13: weight: -2", x -> x.weight(slop), -2);
            }
        }
    }

    private static void noneIn(State state) {
        for (int slot : state.slotsAround()) {
            boolean isSlot = slot >= 0 && slot < state.slots;
            if (!isSlot || !state.hasChoice) {
                due(state, "15: chosen: -1, -3", x -> x.chosen(slot), isSlot ? -3 : -1);
            }
        }
        for (int end : new int[] {LEAST, -1, 0, 1, 2, GREATEST}) {
            boolean fits = end == 0 || end == 1;
            if (!fits || !state.hasChoice) {
                due(state, "17: shortest: -2, -3", x -> x.shortest(end), fits ? -3 : -2);
            }
        }
        if (!state.hasChoice) {
            due(state, "14: least: -3", x -> x.least(), -3);
        }
        Calls.test("the state is as its tests have it: " + state.name, unused -> {
            Calls x = state.make();
            Calls.need(x.least().got() >= 0 == state.hasChoice, "it has a choice: " + state.hasChoice);
            x.forget().is(state.asks);
            x.unslot().is(state.slots);
        });
    }
}
