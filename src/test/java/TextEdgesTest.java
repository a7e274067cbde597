/** The edges of promises 1 to 3: a new object, put, clear. One test for each case that is named. */
public final class TextEdgesTest {
    private static final int[] NO_PLACES = {-1, 30, 31, -30, 1024, Calls.LEAST_INT, Calls.GREATEST_INT};
    private static final int[] NO_SETS = {-1, 1024, 1025, 2047, 1 << 16, 1 << 30, -1024, Calls.LEAST_INT,
        Calls.GREATEST_INT};

    public static void main(String[] args) {
        aNewObject();
        put();
        clear();
        theLastCall();
        Calls.endOfTests();
    }

    private static void aNewObject() {
        Calls.test("1: an empty TEXT: each PLACE has no TERM", x -> {
            for (int place = 0; place < 30; place++) {
                x.put(place, 0).is(0);
            }
        });
        Calls.test("1: an empty TEXT: clear", x -> x.clear().is(0));
        Calls.test("1: an empty TEXT: no PLACE for an ASK or a SLOT of any TERM", x -> {
            for (int term = 0; term < 10; term++) {
                x.ask(0, 0, 0, term).is(term);
                x.count(term).is(0);
            }
            x.slot(0, 1023).is(0);
            x.least().is(-3);
        });
        Calls.test("1: no ASKS: forget", x -> x.forget().is(0));
        Calls.test("1: no ASKS: number 0 is none", x -> {
            x.count(0).is(-1);
            x.covered(0).is(-1);
            x.begin(0, 0).is(-1);
            x.end(0, 0).is(-1);
        });
        Calls.test("1: no ASKS: the first has number 0", x -> x.ask(0, 0, 0, 0).is(0));
        Calls.test("1: no SLOTS: unslot", x -> x.unslot().is(0));
        Calls.test("1: no SLOTS: number 0 is none", x -> x.chosen(0).is(-1));
        Calls.test("1: no SLOTS: the first has number 0", x -> x.slot(0, 1).is(0));
        Calls.test("1: a new object beside a used one", x -> {
            x.fill(0, 29, 1023).terms(10).slot(0, 1).is(0);
            Calls y = new Calls();
            y.clear().is(0);
            y.forget().is(0);
            y.unslot().is(0);
            x.unslot().is(1);
            x.forget().is(10);
            x.clear().is(30);
        });
    }

    private static void put() {
        Calls.test("2: PLACES 0 .. 29: the first", x -> {
            x.put(0, 1).is(0);
            x.put(0, 2).is(1);
        });
        Calls.test("2: PLACES 0 .. 29: the last", x -> {
            x.put(29, 1).is(0);
            x.put(29, 2).is(1);
        });
        for (int place : NO_PLACES) {
            Calls.test("2: -1: PLACES 0 .. 29", x -> {
                x.put(place, 1).is(-1);
                x.clear().is(0);
            });
        }
        Calls.test("2: a SET of TERMS (bits 0 .. 9): each bit", x -> {
            for (int term = 0; term < 10; term++) {
                x.put(term, 1 << term).is(0);
                x.put(term, 0).is(1 << term);
            }
        });
        Calls.test("2: a SET of TERMS: the empty one", x -> {
            x.put(4, 0).is(0);
            x.put(4, 9).is(0);
            x.put(4, 0).is(9);
            x.clear().is(0);
        });
        Calls.test("2: a SET of TERMS: all of them", x -> {
            x.put(4, 1023).is(0);
            x.put(4, 1023).is(1023);
            x.put(4, 0).is(1023);
        });
        for (int set : NO_SETS) {
            Calls.test("2: -2: a SET of TERMS (bits 0 .. 9)", x -> {
                x.put(4, 5).is(0);
                x.put(4, set).is(-2);
                x.put(4, 0).is(5);
            });
        }
        for (int place : NO_PLACES) {
            for (int set : NO_SETS) {
                Calls.test("2: the first that fits: -1 ahead of -2", x -> x.put(place, set).is(-1));
            }
        }
        Calls.test("2: a PLACE gets it: the others keep theirs", x -> {
            for (int place = 0; place < 30; place++) {
                x.put(place, place + 1).is(0);
            }
            x.put(13, 1000).is(14);
            for (int place = 0; place < 30; place++) {
                x.put(place, 0).is(place == 13 ? 1000 : place + 1);
            }
        });
    }

    private static void clear() {
        Calls.test("3: how many were not: none", x -> x.clear().is(0));
        Calls.test("3: how many were not: the first", x -> {
            x.put(0, 1);
            x.clear().is(1);
        });
        Calls.test("3: how many were not: the last", x -> {
            x.put(29, 512);
            x.clear().is(1);
        });
        Calls.test("3: how many were not: all", x -> {
            x.fill(0, 29, 1023);
            x.clear().is(30);
        });
        Calls.test("3: all PLACES are empty", x -> {
            x.fill(0, 29, 1023);
            x.clear().is(30);
            x.clear().is(0);
            for (int place = 0; place < 30; place++) {
                x.put(place, 0).is(0);
            }
        });
        Calls.test("3: how many were not: one that got the empty SET is empty", x -> {
            x.fill(0, 29, 3);
            x.put(7, 0).is(3);
            x.clear().is(29);
        });
        Calls.test("3: all PLACES are empty: ASKS and SLOTS stay", x -> {
            x.put(3, 1);
            x.terms(2).slot(0, 1).is(0);
            x.count(0).is(1);
            x.matches(0).is(1);
            x.clear().is(1);
            x.count(0).is(0);
            x.matches(0).is(0);
            x.put(5, 1).is(0);
            x.row(0, 5, 5);
            x.chosen(0).is(5);
            x.forget().is(2);
            x.unslot().is(1);
        });
    }

    private static void theLastCall() {
        Calls.test("an object is used for at most 512 calls: the last of them", x -> {
            x.text(1, 2).terms(2).ask(2, 0, 1, 0).is(2);
            while (x.made() < Calls.MOST_CALLS - 1) {
                x.put(x.made() % 28 + 2, 0).is(0);
            }
            x.count(2).is(1);
            Calls.need(x.made() == Calls.MOST_CALLS, "512 calls were made");
        });
        Calls.test("an object is used for at most 512 calls: the last of them, of a phrase", x -> {
            x.text(1, 2).slot(0, 1).is(0);
            x.slot(1, 2).is(1);
            while (x.made() < Calls.MOST_CALLS - 1) {
                x.put(1, 2).is(2);
            }
            x.least().is(0);
        });
    }
}
