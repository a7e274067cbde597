import java.util.ArrayList;
import java.util.List;
import java.util.function.Consumer;

/**
 * A PhraseMoves under test: each call gives an answer that is compared by is(..), and is counted, as
 * nothing is promised behind the 512th call on one object.
 */
final class Calls {
    static final int LEAST_INT = Integer.MIN_VALUE;
    static final int GREATEST_INT = Integer.MAX_VALUE;
    static final int MOST_CALLS = 512;

    private static String sentence = "";
    private static int tests = 0;
    private static int wrong = 0;

    private final PhraseMoves object = new PhraseMoves();
    private int calls = 0;

    record Answer(String call, long got) {
        void is(long want) {
            if (got != want) {
                wrong++;
                System.out.println("'" + sentence + "': " + call + " answered " + got + ", due is " + want);
            }
        }
    }

    /** A test of one case, on a new object. */
    static void test(String sentenceOfTheDocument, Consumer<Calls> body) {
        sentence = sentenceOfTheDocument;
        tests++;
        body.accept(new Calls());
    }

    static void need(boolean holds, String what) {
        if (!holds) {
            wrong++;
            System.out.println("'" + sentence + "': not so: " + what);
        }
    }

    static void endOfTests() {
        if (wrong == 0) {
            System.out.println(tests + " tests: all answers are as due");
            return;
        }
        System.out.println(tests + " tests: " + wrong + " answers are not as due");
        System.exit(1);
    }

    int made() {
        return calls;
    }

    private Answer answer(String call, long got) {
        calls++;
        if (calls == MOST_CALLS + 1) {
            need(false, "a test makes at most " + MOST_CALLS + " calls on one object");
        }
        return new Answer(call, got);
    }

    Answer put(int place, int set) {
        return answer("put(" + place + ", " + set + ")", object.put(place, set));
    }

    Answer clear() {
        return answer("clear()", object.clear());
    }

    Answer ask(int kind, int a, int b, int n) {
        return answer("ask(" + kind + ", " + a + ", " + b + ", " + n + ")", object.ask(kind, a, b, n));
    }

    Answer forget() {
        return answer("forget()", object.forget());
    }

    Answer count(int ask) {
        return answer("count(" + ask + ")", object.count(ask));
    }

    Answer begin(int ask, int k) {
        return answer("begin(" + ask + ", " + k + ")", object.begin(ask, k));
    }

    Answer end(int ask, int k) {
        return answer("end(" + ask + ", " + k + ")", object.end(ask, k));
    }

    Answer covered(int ask) {
        return answer("covered(" + ask + ")", object.covered(ask));
    }

    Answer slot(int offset, int set) {
        return answer("slot(" + offset + ", " + set + ")", object.slot(offset, set));
    }

    Answer unslot() {
        return answer("unslot()", object.unslot());
    }

    Answer matches(int slop) {
        return answer("matches(" + slop + ")", object.matches(slop));
    }

    Answer weight(int slop) {
        return answer("weight(" + slop + ")", object.weight(slop));
    }

    Answer least() {
        return answer("least()", object.least());
    }

    Answer chosen(int slot) {
        return answer("chosen(" + slot + ")", object.chosen(slot));
    }

    Answer ties() {
        return answer("ties()", object.ties());
    }

    Answer shortest(int end) {
        return answer("shortest(" + end + ")", object.shortest(end));
    }

    /** The sets of the places 0, 1, .. */
    Calls text(int... sets) {
        for (int place = 0; place < sets.length; place++) {
            put(place, sets[place]);
        }
        return this;
    }

    /** The same set on the places from .. to. */
    Calls fill(int from, int to, int set) {
        for (int place = from; place <= to; place++) {
            put(place, set);
        }
        return this;
    }

    /** Asks 0, 1, .. for the terms 0, 1, .. */
    Calls terms(int many) {
        for (int term = 0; term < many; term++) {
            ask(0, 0, 0, term).is(term);
        }
        return this;
    }

    /** An ask whose number is due, and its row: begin, end, begin, end, .. */
    void askRow(int number, int kind, int a, int b, int n, int... bounds) {
        ask(kind, a, b, n).is(number);
        row(number, bounds);
    }

    void row(int ask, int... bounds) {
        int size = bounds.length / 2;
        count(ask).is(size);
        for (int k = 0; k < size; k++) {
            begin(ask, k).is(bounds[2 * k]);
            end(ask, k).is(bounds[2 * k + 1]);
        }
    }

    /** What can be asked about the asks without a change; number is how many may be there. */
    List<Answer> asksAsTheyAre(int number) {
        List<Answer> all = new ArrayList<>();
        for (int ask = 0; ask < number; ask++) {
            Answer count = count(ask);
            all.add(count);
            all.add(covered(ask));
            all.add(begin(ask, 0));
            all.add(end(ask, (int) Math.max(0, count.got() - 1)));
        }
        return all;
    }

    /** What can be asked about the phrase without a change. */
    List<Answer> phraseAsItIs() {
        List<Answer> all = new ArrayList<>();
        for (int slop = 0; slop <= 9; slop++) {
            all.add(matches(slop));
            all.add(weight(slop));
        }
        all.add(least());
        for (int slot = 0; slot < 4; slot++) {
            all.add(chosen(slot));
        }
        all.add(ties());
        all.add(shortest(0));
        all.add(shortest(1));
        return all;
    }

    /** The rest, which can be asked for by changes alone: what the asks are, how many, and the text. */
    List<Answer> takenApart(int number) {
        List<Answer> all = new ArrayList<>();
        all.add(put(2, 1));
        all.add(put(7, 6));
        for (int ask = 0; ask < number; ask++) {
            all.add(count(ask));
            all.add(covered(ask));
        }
        all.add(ask(0, 0, 0, 0));
        all.add(slot(0, 1));
        all.add(forget());
        all.add(unslot());
        for (int place = 0; place < 30; place++) {
            all.add(put(place, 0));
        }
        all.add(clear());
        return all;
    }
}
