/** The edges of promises 4 to 9: the asks. One test for each case that the document names. */
public final class AskEdgesTest {
    private static final int TERM = 0;
    private static final int EITHER = 1;
    private static final int BEHIND = 2;
    private static final int NEAR = 3;
    private static final int BOTH = 4;
    private static final int HOLDING = 5;
    private static final int IN = 6;
    private static final int OVER = 7;
    private static final int FAR = 8;
    private static final int FIRST = 9;
    private static final int GROWN = 10;

    private static final int[] WITH_A = {EITHER, BEHIND, NEAR, BOTH, HOLDING, IN, OVER, FAR, FIRST, GROWN};
    private static final int[] WITH_B = {EITHER, BEHIND, NEAR, BOTH, HOLDING, IN, OVER, FAR};
    private static final int[] WITH_N = {BEHIND, NEAR, BOTH, FAR, FIRST, GROWN};
    private static final int[] WITHOUT_N = {EITHER, HOLDING, IN, OVER};

    private static final int[] NO_KINDS = {-1, 11, 12, Calls.LEAST_INT, Calls.GREATEST_INT};
    private static final int[] NO_NUMBERS = {-1, 31, 32, Calls.LEAST_INT, Calls.GREATEST_INT};
    private static final int[] NO_TERMS = {-1, 10, 11, 30, 31, Calls.LEAST_INT, Calls.GREATEST_INT};
    /** None of these is an ask where there are asks 0 and 1 alone. */
    private static final int[] NO_ASKS_OF_TWO = {-1, 2, 3, 29, 30, Calls.LEAST_INT, Calls.GREATEST_INT};

    public static void main(String[] args) {
        kinds();
        numbers();
        asksBefore();
        room();
        firstThatFits();
        forget();
        counts();
        intervals();
        covered();
        leastIntervals();
        termAndEither();
        behind();
        near();
        both();
        holding();
        in();
        over();
        far();
        first();
        grown();
        joinedOutOfNone();
        Calls.endOfTests();
    }

    private static void kinds() {
        Calls.test("4: KINDS 0 .. 10: the least", x -> x.ask(0, 0, 0, 0).is(0));
        Calls.test("4: KINDS 0 .. 10: the greatest", x -> x.terms(1).ask(10, 0, 0, 0).is(1));
        for (int kind : NO_KINDS) {
            Calls.test("4: -2 KIND", x -> {
                x.terms(2).ask(kind, 0, 1, 5).is(-2);
                x.forget().is(2);
            });
        }
    }

    private static void numbers() {
        Calls.test("4: TERM n (0 .. 9): the least", x -> {
            x.put(3, 1);
            x.askRow(0, TERM, 0, 0, 0, 3, 3);
        });
        Calls.test("4: TERM n (0 .. 9): the greatest", x -> {
            x.put(3, 512);
            x.askRow(0, TERM, 0, 0, 9, 3, 3);
        });
        for (int n : NO_TERMS) {
            Calls.test("4: -2 n (of KIND 0 as well)", x -> {
                x.ask(TERM, 0, 0, n).is(-2);
                x.forget().is(0);
            });
        }
        for (int kind : WITH_N) {
            Calls.test("4: a number n, 0 to 30: the least and the greatest, KIND " + kind, x -> {
                x.terms(1).ask(kind, 0, 0, 0).is(1);
                x.ask(kind, 0, 0, 30).is(2);
            });
            for (int n : NO_NUMBERS) {
                Calls.test("4: -2 n, KIND " + kind, x -> {
                    x.terms(2).ask(kind, 0, 1, n).is(-2);
                    x.forget().is(2);
                });
            }
        }
        for (int kind : WITHOUT_N) {
            for (int n : NO_NUMBERS) {
                Calls.test("4: n that is not told does not count, KIND " + kind, x -> {
                    x.put(8, 3);
                    x.terms(2).askRow(2, kind, 0, 1, n, 8, 8);
                });
            }
        }
    }

    private static void asksBefore() {
        for (int kind : WITH_A) {
            Calls.test("4: -1 a without ASKS, KIND " + kind, x -> {
                x.ask(kind, 0, 0, 0).is(-1);
                x.forget().is(0);
            });
            Calls.test("4: of ASKS before it: the first and the last for a, KIND " + kind, x -> {
                x.terms(2).ask(kind, 0, 0, 0).is(2);
                x.ask(kind, 2, 0, 0).is(3);
            });
            for (int a : NO_ASKS_OF_TWO) {
                Calls.test("4: -1 a, KIND " + kind, x -> {
                    x.terms(2).ask(kind, a, 0, 0).is(-1);
                    x.forget().is(2);
                });
            }
        }
        for (int kind : WITH_B) {
            Calls.test("4: of ASKS before it: the first and the last for b, KIND " + kind, x -> {
                x.terms(2).ask(kind, 0, 0, 0).is(2);
                x.ask(kind, 0, 2, 0).is(3);
            });
            for (int b : NO_ASKS_OF_TWO) {
                Calls.test("4: -1 b, KIND " + kind, x -> {
                    x.terms(2).ask(kind, 0, b, 0).is(-1);
                    x.forget().is(2);
                });
            }
        }
        for (int none : NO_ASKS_OF_TWO) {
            Calls.test("4: -1 a, b (those that count): neither with TERM", x -> {
                x.put(8, 1);
                x.askRow(0, TERM, none, none, 0, 8, 8);
            });
            Calls.test("4: -1 a, b (those that count): not b with FIRST", x -> {
                x.put(8, 1);
                x.terms(2).askRow(2, FIRST, 0, none, 9, 8, 8);
            });
            Calls.test("4: -1 a, b (those that count): not b with GROWN", x -> {
                x.put(8, 1);
                x.terms(2).askRow(2, GROWN, 0, none, 1, 7, 8);
            });
        }
    }

    private static void thirty(Calls x) {
        x.text(1, 2);
        for (int number = 0; number < 30; number++) {
            x.ask(TERM, 0, 0, number % 2).is(number);
        }
    }

    private static void room() {
        Calls.test("4: 30 at most: the 30th", x -> {
            thirty(x);
            x.row(29, 1, 1);
            x.forget().is(30);
        });
        for (int kind = TERM; kind <= GROWN; kind++) {
            int one = kind;
            Calls.test("4: -4: the 31st, KIND " + kind, x -> {
                thirty(x);
                x.ask(one, 29, 29, 0).is(-4);
                x.count(30).is(-1);
                x.row(29, 1, 1);
                x.forget().is(30);
            });
            Calls.test("4: 30 at most: the 30th of the 29th, KIND " + kind, x -> {
                for (int number = 0; number < 29; number++) {
                    x.ask(TERM, 0, 0, 0).is(number);
                }
                x.ask(one, 28, 28, 0).is(29);
                x.ask(one, 29, 29, 0).is(-4);
            });
        }
        Calls.test("4: -4: refusals take no room", x -> {
            for (int number = 0; number < 30; number++) {
                x.ask(11, 0, 0, 0).is(-2);
                x.ask(EITHER, 30, 30, 0).is(-1);
                x.ask(TERM, 0, 0, 0).is(number);
            }
            x.ask(TERM, 0, 0, 0).is(-4);
        });
        Calls.test("4: -4: there is room again behind forget", x -> {
            thirty(x);
            x.ask(TERM, 0, 0, 0).is(-4);
            x.forget().is(30);
            thirty(x);
            x.ask(TERM, 0, 0, 0).is(-4);
        });
    }

    private static void firstThatFits() {
        Calls.test("4: -2 KIND ahead of -1 a, b", x -> x.ask(11, 0, 0, 0).is(-2));
        Calls.test("4: -2 KIND ahead of -1 a, b", x -> x.terms(1).ask(-1, 1, 1, 0).is(-2));
        for (int kind : WITH_N) {
            Calls.test("4: -2 n ahead of -1 a, KIND " + kind, x -> x.terms(1).ask(kind, 1, 0, 31).is(-2));
            Calls.test("4: -2 n ahead of -1 a, KIND " + kind, x -> x.terms(1).ask(kind, -1, 0, -1).is(-2));
            Calls.test("4: -2 n ahead of -1 without ASKS, KIND " + kind, x -> x.ask(kind, 0, 0, 31).is(-2));
            Calls.test("4: -2 n ahead of -1 b, KIND " + kind, x -> x.terms(1).ask(kind, 0, 1, 31).is(-2));
            Calls.test("4: -2 n ahead of -4, KIND " + kind, x -> {
                thirty(x);
                x.ask(kind, 0, 0, 31).is(-2);
                x.ask(kind, 0, 0, -1).is(-2);
            });
            Calls.test("4: -2 n ahead of -1 and -4, KIND " + kind, x -> {
                thirty(x);
                x.ask(kind, 30, 30, 31).is(-2);
            });
        }
        for (int kind : WITHOUT_N) {
            Calls.test("4: -1 a, b, where n does not count, KIND " + kind, x -> {
                x.terms(1).ask(kind, 1, 0, 31).is(-1);
                x.ask(kind, 0, 1, 31).is(-1);
            });
        }
        Calls.test("4: -2 KIND ahead of -4", x -> {
            thirty(x);
            x.ask(11, 0, 0, 0).is(-2);
            x.ask(-1, 0, 0, 0).is(-2);
            x.ask(11, 30, 30, 31).is(-2);
        });
        Calls.test("4: -2 n of KIND 0 ahead of -4", x -> {
            thirty(x);
            x.ask(TERM, 0, 0, 10).is(-2);
            x.ask(TERM, 0, 0, -1).is(-2);
        });
        for (int kind : WITH_A) {
            Calls.test("4: -1 a ahead of -4, KIND " + kind, x -> {
                thirty(x);
                x.ask(kind, 30, 0, 0).is(-1);
                x.ask(kind, -1, 0, 0).is(-1);
            });
        }
        for (int kind : WITH_B) {
            Calls.test("4: -1 b ahead of -4, KIND " + kind, x -> {
                thirty(x);
                x.ask(kind, 0, 30, 0).is(-1);
                x.ask(kind, 0, -1, 0).is(-1);
            });
        }
        for (int kind : new int[] {FIRST, GROWN}) {
            Calls.test("4: -4 where b does not count, KIND " + kind, x -> {
                thirty(x);
                x.ask(kind, 0, 30, 0).is(-4);
            });
        }
        Calls.test("4: -4 where a and b do not count", x -> {
            thirty(x);
            x.ask(TERM, 30, -1, 0).is(-4);
        });
    }

    private static void forget() {
        Calls.test("5: how many there were: none", x -> x.forget().is(0));
        Calls.test("5: how many there were: one", x -> x.terms(1).forget().is(1));
        Calls.test("5: how many there were: 30", x -> {
            thirty(x);
            x.forget().is(30);
        });
        Calls.test("5: no ASKS any more", x -> {
            x.put(3, 1);
            x.terms(2).row(0, 3, 3);
            x.forget().is(2);
            x.forget().is(0);
            x.count(0).is(-1);
            x.begin(0, 0).is(-1);
            x.end(0, 0).is(-1);
            x.covered(0).is(-1);
            x.ask(EITHER, 0, 0, 0).is(-1);
        });
        Calls.test("5: no ASKS any more: numbered 0, 1, .. again, with rows of their own", x -> {
            x.text(1, 2).terms(2).row(1, 1, 1);
            x.forget().is(2);
            x.askRow(0, TERM, 0, 0, 1, 1, 1);
            x.count(1).is(-1);
            x.askRow(1, TERM, 0, 0, 0, 0, 0);
        });
        Calls.test("5: no ASKS any more: the TEXT and the SLOTS stay", x -> {
            x.text(1, 2).terms(2).slot(0, 2).is(0);
            x.forget().is(2);
            x.chosen(0).is(1);
            x.unslot().is(1);
            x.put(0, 0).is(1);
            x.put(1, 0).is(2);
        });
    }

    private static void counts() {
        for (int ask : NO_ASKS_OF_TWO) {
            Calls.test("6: -1", x -> x.text(3).terms(2).count(ask).is(-1));
            Calls.test("6: -1 without ASKS", x -> x.text(3).count(ask).is(-1));
        }
        Calls.test("6: how many INTERVALS: none in the empty TEXT", x -> x.terms(1).count(0).is(0));
        Calls.test("6: how many INTERVALS: none where the TERM is not", x -> x.text(2, 2).terms(1).count(0).is(0));
        Calls.test("6: how many INTERVALS: 30", x -> x.fill(0, 29, 1).terms(1).count(0).is(30));
        Calls.test("6: in the TEXT as it is: behind put, clear and refusals", x -> {
            x.terms(1).count(0).is(0);
            x.put(29, 1);
            x.count(0).is(1);
            x.put(30, 1).is(-1);
            x.put(28, 1025).is(-2);
            x.count(0).is(1);
            x.put(29, 2);
            x.count(0).is(0);
            x.put(0, 3);
            x.count(0).is(1);
            x.clear();
            x.count(0).is(0);
        });
        Calls.test("6: in the TEXT as it is: of an ASK that is joined out of ASKS", x -> {
            x.terms(2).ask(BEHIND, 0, 1, 0).is(2);
            x.ask(BEHIND, 2, 2, 0).is(3);
            x.text(1, 2, 1, 2).row(3, 0, 3);
            x.put(2, 2);
            x.row(3);
            x.row(2, 0, 1);
            x.put(0, 0);
            x.row(2);
        });
        Calls.test("6: in the TEXT as it is: an ASK that comes behind others were asked for", x -> {
            x.text(1, 2).terms(2).row(1, 1, 1);
            x.askRow(2, BEHIND, 0, 1, 0, 0, 1);
            x.put(0, 0);
            x.row(0);
            x.askRow(3, NEAR, 0, 1, 0);
            x.row(2);
        });
    }

    private static void intervals() {
        for (int ask : NO_ASKS_OF_TWO) {
            Calls.test("7: -1: no such ASK", x -> x.text(3).terms(2).begin(ask, 0).is(-1));
            Calls.test("8: -1: no such ASK", x -> x.text(3).terms(2).end(ask, 0).is(-1));
            Calls.test("7: -1: neither such an ASK nor such an INTERVAL", x -> x.terms(2).begin(ask, -1).is(-1));
            Calls.test("8: -1: neither such an ASK nor such an INTERVAL", x -> x.terms(2).end(ask, -1).is(-1));
        }
        for (int k : new int[] {-1, 3, 4, 29, 30, Calls.LEAST_INT, Calls.GREATEST_INT}) {
            Calls.test("7: -1: no such INTERVAL of three", x -> x.text(1, 2, 1, 1).terms(1).begin(0, k).is(-1));
            Calls.test("8: -1: no such INTERVAL of three", x -> x.text(1, 2, 1, 1).terms(1).end(0, k).is(-1));
        }
        for (int k : new int[] {-1, 0, 1, 30, Calls.LEAST_INT, Calls.GREATEST_INT}) {
            Calls.test("7: -1: an ASK without INTERVALS", x -> x.terms(1).begin(0, k).is(-1));
            Calls.test("8: -1: an ASK without INTERVALS", x -> x.terms(1).end(0, k).is(-1));
        }
        Calls.test("7: INTERVAL k, from 0: the first and the last of 30", x -> {
            x.fill(0, 29, 1).terms(1).begin(0, 0).is(0);
            x.begin(0, 29).is(29);
            x.begin(0, 30).is(-1);
            x.begin(0, -1).is(-1);
        });
        Calls.test("8: where it ends: the first and the last of 30", x -> {
            x.fill(0, 29, 1).terms(1).end(0, 0).is(0);
            x.end(0, 29).is(29);
            x.end(0, 30).is(-1);
            x.end(0, -1).is(-1);
        });
        Calls.test("7, 8: an INTERVAL that has all PLACES", x -> {
            x.put(0, 1);
            x.put(29, 2);
            x.terms(2).askRow(2, BEHIND, 0, 1, 28, 0, 29);
            x.begin(2, 1).is(-1);
            x.end(2, 1).is(-1);
        });
        Calls.test("7, 8: by rising PLACES", x -> {
            x.text(1, 2, 0, 2, 1);
            x.terms(2).askRow(2, NEAR, 1, 0, 0, 0, 1, 3, 4);
            x.askRow(3, EITHER, 1, 0, 0, 0, 0, 1, 1, 3, 3, 4, 4);
        });
        Calls.test("7, 8: -1 is no answer that stays: the TEXT has it next", x -> {
            x.terms(1).begin(0, 0).is(-1);
            x.end(0, 0).is(-1);
            x.put(0, 1);
            x.begin(0, 0).is(0);
            x.end(0, 0).is(0);
        });
    }

    private static void covered() {
        for (int ask : NO_ASKS_OF_TWO) {
            Calls.test("9: -1", x -> x.text(3).terms(2).covered(ask).is(-1));
            Calls.test("9: -1 without ASKS", x -> x.text(3).covered(ask).is(-1));
        }
        Calls.test("9: PLACES: none", x -> x.text(2).terms(1).covered(0).is(0));
        Calls.test("9: PLACES: the first", x -> x.text(1).terms(1).covered(0).is(1));
        Calls.test("9: PLACES: the last", x -> {
            x.put(29, 1);
            x.terms(1).covered(0).is(1);
        });
        Calls.test("9: PLACES: all of them, by 30 INTERVALS", x -> x.fill(0, 29, 1).terms(1).covered(0).is(30));
        Calls.test("9: PLACES: all of them, by one INTERVAL", x -> {
            x.put(0, 1);
            x.put(29, 2);
            x.terms(2).ask(BOTH, 0, 1, 30).is(2);
            x.covered(2).is(30);
        });
        Calls.test("9: in one INTERVAL or more: one PLACE in two", x -> {
            x.text(1, 0, 1, 0, 1).terms(1).askRow(1, BEHIND, 0, 0, 1, 0, 2, 2, 4);
            x.covered(1).is(5);
        });
        Calls.test("9: in one INTERVAL or more: many PLACES in three", x -> {
            x.fill(5, 7, 1).terms(1).askRow(1, GROWN, 0, 0, 4, 1, 5, 2, 6, 3, 7);
            x.covered(1).is(7);
        });
        Calls.test("9: INTERVALS that touch, and a gap of one", x -> {
            x.text(1, 2, 1, 2, 0, 1, 2).terms(2).askRow(2, BEHIND, 0, 1, 0, 0, 1, 2, 3, 5, 6);
            x.covered(2).is(6);
        });
    }

    private static void leastIntervals() {
        Calls.test("those that HOLD no other one: the same begin", x -> {
            // A B at 0 .. 1, and A with the B at 3
            x.text(1, 2, 0, 2).terms(2).askRow(2, BEHIND, 0, 1, 30, 0, 1);
        });
        Calls.test("those that HOLD no other one: the same end", x -> {
            x.text(1, 0, 1, 2).terms(2).askRow(2, BEHIND, 0, 1, 30, 2, 3);
        });
        Calls.test("those that HOLD no other one: one inside", x -> {
            x.text(1, 4, 2).terms(3).ask(BEHIND, 0, 1, 30).is(3);
            x.askRow(4, EITHER, 3, 2, 0, 1, 1);
        });
        Calls.test("those that HOLD no other one: the same twice is one", x -> {
            x.text(3, 3).terms(2).askRow(2, EITHER, 0, 1, 0, 0, 0, 1, 1);
        });
        Calls.test("those that HOLD no other one: that overlap stay", x -> {
            x.text(1, 1, 2, 2).terms(2).ask(BEHIND, 0, 1, 1).is(2);
            x.row(2, 1, 2);
            x.ask(BEHIND, 0, 0, 0).is(3);
            x.ask(BEHIND, 0, 1, 0).is(4);
            x.askRow(5, EITHER, 3, 4, 0, 0, 1, 1, 2);
        });
        Calls.test("those that HOLD no other one: at the last PLACE", x -> {
            x.put(28, 1);
            x.put(29, 2);
            x.terms(2).ask(BEHIND, 0, 1, 0).is(2);
            x.askRow(3, EITHER, 2, 1, 0, 29, 29);
        });
    }

    private static void termAndEither() {
        Calls.test("0 TERM: each PLACE that has it, among other TERMS", x -> {
            for (int term = 0; term < 10; term++) {
                x.put(term, 1 << term);
                x.put(term + 15, 1023 - (1 << term));
            }
            x.terms(10);
            for (int term = 0; term < 10; term++) {
                x.count(term).is(10);
                x.begin(term, 0).is(term);
                x.begin(term, 1).is(term == 0 ? 16 : 15);
                x.end(term, 9).is(term == 9 ? 23 : 24);
            }
        });
        Calls.test("0 TERM: the first and the last PLACE", x -> {
            x.put(0, 1);
            x.put(29, 1);
            x.terms(1).row(0, 0, 0, 29, 29);
        });
        Calls.test("1 EITHER: of a and of b: only one of them has some", x -> {
            x.text(1, 1).terms(2).askRow(2, EITHER, 0, 1, 0, 0, 0, 1, 1);
            x.askRow(3, EITHER, 1, 0, 0, 0, 0, 1, 1);
        });
        Calls.test("1 EITHER: of the same ASK twice", x -> x.text(1).terms(1).askRow(1, EITHER, 0, 0, 0, 0, 0));
    }

    private static void behind() {
        Calls.test("2 BEHIND: at most n PLACES between: n = 0 and they touch", x -> {
            x.text(1, 2).terms(2).askRow(2, BEHIND, 0, 1, 0, 0, 1);
        });
        Calls.test("2 BEHIND: at most n PLACES between: n = 0 and one between", x -> {
            x.text(1, 0, 2).terms(2).askRow(2, BEHIND, 0, 1, 0);
            x.askRow(3, BEHIND, 0, 1, 1, 0, 2);
        });
        Calls.test("2 BEHIND: at most n PLACES between: 28 at the edges of the TEXT", x -> {
            x.put(0, 1);
            x.put(29, 2);
            x.terms(2).askRow(2, BEHIND, 0, 1, 27);
            x.askRow(3, BEHIND, 0, 1, 28, 0, 29);
            x.askRow(4, BEHIND, 0, 1, 30, 0, 29);
        });
        Calls.test("2 BEHIND: that begins behind its end: not on the same PLACE", x -> {
            x.text(3).terms(2).askRow(2, BEHIND, 0, 1, 30);
        });
        Calls.test("2 BEHIND: that begins behind its end: not at its end", x -> {
            // A B is 0 .. 1, and C D is 1 .. 2 or, put further, 2 .. 3.
            x.text(1, 6, 8).terms(4).ask(BEHIND, 0, 1, 0).is(4);
            x.ask(BEHIND, 2, 3, 0).is(5);
            x.askRow(6, BEHIND, 4, 5, 30);
            x.text(1, 2, 4, 8).row(6, 0, 3);
        });
        Calls.test("2 BEHIND: that begins behind its end: not before it", x -> {
            x.text(2, 1).terms(2).askRow(2, BEHIND, 0, 1, 30);
        });
        Calls.test("2 BEHIND: of the same ASK: never the same INTERVAL twice", x -> {
            x.text(1).terms(1).askRow(1, BEHIND, 0, 0, 30);
            x.put(1, 1);
            x.row(1, 0, 1);
        });
        Calls.test("2 BEHIND: PLACES between count from the end of the one to the begin of the other", x -> {
            x.text(1, 2, 0, 0, 1, 2).terms(2).ask(BEHIND, 0, 1, 0).is(2);
            x.askRow(3, BEHIND, 2, 2, 1);
            x.askRow(4, BEHIND, 2, 2, 2, 0, 5);
        });
        Calls.test("2 BEHIND: the last PLACE has none behind", x -> {
            x.put(29, 3);
            x.terms(2).askRow(2, BEHIND, 0, 1, 30);
        });
    }

    private static void near() {
        Calls.test("3 NEAR: for a, b", x -> x.text(1, 2).terms(2).askRow(2, NEAR, 0, 1, 0, 0, 1));
        Calls.test("3 NEAR: for b, a", x -> x.text(2, 1).terms(2).askRow(2, NEAR, 0, 1, 0, 0, 1));
        Calls.test("3 NEAR: both ways", x -> x.text(2, 1, 2).terms(2).askRow(2, NEAR, 0, 1, 0, 0, 1, 1, 2));
        Calls.test("3 NEAR: n PLACES between and one more, both ways", x -> {
            x.text(2, 0, 0, 1, 0, 0, 0, 2).terms(2).askRow(2, NEAR, 0, 1, 1);
            x.askRow(3, NEAR, 0, 1, 2, 0, 3);
            x.askRow(4, NEAR, 0, 1, 3, 0, 3, 3, 7);
            x.askRow(5, NEAR, 1, 0, 1);
            x.askRow(6, NEAR, 1, 0, 2, 0, 3);
            x.askRow(7, NEAR, 1, 0, 3, 0, 3, 3, 7);
        });
        Calls.test("3 NEAR: not on the same PLACE", x -> x.text(3).terms(2).askRow(2, NEAR, 0, 1, 30));
    }

    private static void both() {
        Calls.test("4 BOTH: n PLACES at most in all: n = 0 has none", x -> {
            x.text(3).terms(2).askRow(2, BOTH, 0, 1, 0);
            x.askRow(3, BOTH, 0, 0, 0);
        });
        Calls.test("4 BOTH: n PLACES at most in all: n = 1, the same PLACE", x -> {
            x.text(3).terms(2).askRow(2, BOTH, 0, 1, 1, 0, 0);
        });
        Calls.test("4 BOTH: n PLACES at most in all: n and one more", x -> {
            x.text(1, 0, 0, 2).terms(2).askRow(2, BOTH, 0, 1, 3);
            x.askRow(3, BOTH, 0, 1, 4, 0, 3);
            x.askRow(4, BOTH, 1, 0, 3);
            x.askRow(5, BOTH, 1, 0, 4, 0, 3);
        });
        Calls.test("4 BOTH: n PLACES at most in all: at the end of the TEXT", x -> {
            x.put(28, 1);
            x.put(29, 2);
            x.terms(2).askRow(2, BOTH, 0, 1, 1);
            x.askRow(3, BOTH, 0, 1, 2, 28, 29);
            x.askRow(4, BOTH, 1, 0, 2, 28, 29);
        });
        Calls.test("4 BOTH: n PLACES at most in all: 30", x -> {
            x.put(0, 2);
            x.put(29, 1);
            x.terms(2).askRow(2, BOTH, 0, 1, 29);
            x.askRow(3, BOTH, 0, 1, 30, 0, 29);
        });
        Calls.test("4 BOTH: from the lesser begin to the greater end: one holds the other", x -> {
            // A .. C is 0 .. 3 and holds B at 2.
            x.text(1, 0, 2, 4).terms(3).ask(BEHIND, 0, 2, 30).is(3);
            x.askRow(4, BOTH, 3, 1, 4, 0, 3);
            x.askRow(5, BOTH, 1, 3, 4, 0, 3);
            x.askRow(6, BOTH, 1, 3, 3);
        });
        Calls.test("4 BOTH: from the lesser begin to the greater end: they overlap", x -> {
            // A C at 0 .. 2, B D at 1 .. 3
            x.text(1, 2, 4, 8).terms(4).ask(BEHIND, 0, 2, 30).is(4);
            x.ask(BEHIND, 1, 3, 30).is(5);
            x.askRow(6, BOTH, 4, 5, 4, 0, 3);
            x.askRow(7, BOTH, 5, 4, 4, 0, 3);
            x.askRow(8, BOTH, 5, 4, 3);
        });
    }

    /** A at 2 .. 4 as A before B, C at the place that is told. */
    private static Calls aroundThree(Calls x, int placeOfC) {
        x.put(2, 1 + (placeOfC == 2 ? 4 : 0));
        x.put(4, 2 + (placeOfC == 4 ? 4 : 0));
        if (placeOfC != 2 && placeOfC != 4) {
            x.put(placeOfC, 4);
        }
        x.terms(3).askRow(3, BEHIND, 0, 1, 1, 2, 4);
        return x;
    }

    private static void holding() {
        for (int place = 1; place <= 5; place++) {
            int one = place;
            Calls.test("5 HOLDING: all its PLACES are of that: PLACE " + place + " by 2 .. 4", x -> {
                aroundThree(x, one).ask(HOLDING, 3, 2, 0).is(4);
                x.count(4).is(one >= 2 && one <= 4 ? 1 : 0);
            });
        }
        Calls.test("5 HOLDING: also the same", x -> {
            x.text(3).terms(2).askRow(2, HOLDING, 0, 1, 0, 0, 0);
            x.askRow(3, HOLDING, 0, 0, 0, 0, 0);
        });
        Calls.test("5 HOLDING: not one that is longer", x -> {
            aroundThree(x, 3).askRow(4, HOLDING, 2, 3, 0);
        });
        Calls.test("5 HOLDING: not one of which a PLACE is not held", x -> {
            // Grown C: 1 .. 2 sticks out before, 4 .. 5 behind.
            aroundThree(x, 2).ask(GROWN, 2, 0, 1).is(4);
            x.askRow(5, HOLDING, 3, 4, 0);
            x.put(2, 1);
            x.put(5, 4);
            x.row(4, 4, 5);
            x.row(5);
            x.put(5, 0);
            x.put(4, 6);
            x.row(4, 3, 4);
            x.row(5, 2, 4);
        });
    }

    private static void in() {
        for (int place = 1; place <= 5; place++) {
            int one = place;
            Calls.test("6 IN: all its PLACES are of that: PLACE " + place + " in 2 .. 4", x -> {
                aroundThree(x, one).ask(IN, 2, 3, 0).is(4);
                x.count(4).is(one >= 2 && one <= 4 ? 1 : 0);
            });
        }
        Calls.test("6 IN: also the same", x -> {
            x.text(3).terms(2).askRow(2, IN, 0, 1, 0, 0, 0);
            x.askRow(3, IN, 0, 0, 0, 0, 0);
        });
        Calls.test("6 IN: not in one that is shorter", x -> {
            aroundThree(x, 3).askRow(4, IN, 3, 2, 0);
        });
        Calls.test("6 IN: not one of which a PLACE is outside", x -> {
            aroundThree(x, 2).ask(GROWN, 2, 0, 1).is(4);
            x.askRow(5, IN, 4, 3, 0);
            x.put(2, 1);
            x.put(5, 4);
            x.row(4, 4, 5);
            x.row(5);
            x.put(5, 0);
            x.put(4, 6);
            x.row(5, 3, 4);
        });
    }

    private static void over() {
        for (int place = 1; place <= 5; place++) {
            int one = place;
            Calls.test("7 OVER: a PLACE in common: PLACE " + place + " with 2 .. 4", x -> {
                aroundThree(x, one).ask(OVER, 3, 2, 0).is(4);
                x.count(4).is(one >= 2 && one <= 4 ? 1 : 0);
                x.ask(OVER, 2, 3, 0).is(5);
                x.count(5).is(one >= 2 && one <= 4 ? 1 : 0);
            });
        }
        Calls.test("7 OVER: a PLACE in common: only the end with a begin", x -> {
            aroundThree(x, 4).put(6, 8);
            x.ask(TERM, 0, 0, 3).is(4);
            x.askRow(5, BEHIND, 2, 4, 1, 4, 6);
            x.askRow(6, OVER, 3, 5, 0, 2, 4);
            x.askRow(7, OVER, 5, 3, 0, 4, 6);
        });
    }

    private static void far() {
        for (int place = 0; place <= 6; place++) {
            int one = place;
            Calls.test("8 FAR: no PLACE in common, n = 0: PLACE " + place + " from 2 .. 4", x -> {
                aroundThree(x, one).ask(FAR, 3, 2, 0).is(4);
                x.count(4).is(one == 0 || one == 6 ? 1 : 0);
                x.ask(FAR, 2, 3, 0).is(5);
                x.count(5).is(one == 0 || one == 6 ? 1 : 0);
            });
        }
        Calls.test("8 FAR: nor one with at most n PLACES between: n and one more, behind", x -> {
            aroundThree(x, 8).askRow(4, FAR, 3, 2, 3);
            x.askRow(5, FAR, 3, 2, 2, 2, 4);
        });
        Calls.test("8 FAR: nor one with at most n PLACES between: n and one more, before", x -> {
            aroundThree(x, 0).askRow(4, FAR, 3, 2, 1);
            x.askRow(5, FAR, 3, 2, 0, 2, 4);
        });
        Calls.test("8 FAR: nor one with at most n PLACES between: 28 at the edges of the TEXT", x -> {
            x.put(0, 1);
            x.put(29, 2);
            x.terms(2).askRow(2, FAR, 0, 1, 27, 0, 0);
            x.askRow(3, FAR, 0, 1, 28);
            x.askRow(4, FAR, 1, 0, 27, 29, 29);
            x.askRow(5, FAR, 1, 0, 30);
        });
        Calls.test("8 FAR: from any of b: one near and one far", x -> {
            aroundThree(x, 5).put(29, 4);
            x.askRow(4, FAR, 3, 2, 0);
            x.put(5, 0);
            x.row(4, 2, 4);
        });
        Calls.test("8 FAR: from itself", x -> x.text(1).terms(1).askRow(1, FAR, 0, 0, 0));
    }

    private static void first() {
        Calls.test("9 FIRST: that end before PLACE n: n = 0 has none", x -> {
            x.text(1).terms(1).askRow(1, FIRST, 0, 0, 0);
        });
        Calls.test("9 FIRST: that end before PLACE n: the first PLACE", x -> {
            x.text(1, 1).terms(1).askRow(1, FIRST, 0, 0, 1, 0, 0);
        });
        Calls.test("9 FIRST: that end before PLACE n: n = 30 has all", x -> {
            x.put(0, 1);
            x.put(29, 1);
            x.terms(1).askRow(1, FIRST, 0, 0, 30, 0, 0, 29, 29);
            x.askRow(2, FIRST, 0, 0, 29, 0, 0);
        });
        Calls.test("9 FIRST: it goes by the end, not by the begin", x -> {
            aroundThree(x, 9).askRow(4, FIRST, 3, 0, 4);
            x.askRow(5, FIRST, 3, 0, 3);
            x.askRow(6, FIRST, 3, 0, 5, 2, 4);
        });
    }

    private static void grown() {
        Calls.test("10 GROWN: from n PLACES before: n = 0", x -> {
            aroundThree(x, 9).askRow(4, GROWN, 3, 0, 0, 2, 4);
        });
        Calls.test("10 GROWN: not below 0: one before it, at it and one beyond", x -> {
            aroundThree(x, 9).askRow(4, GROWN, 3, 0, 1, 1, 4);
            x.askRow(5, GROWN, 3, 0, 2, 0, 4);
            x.askRow(6, GROWN, 3, 0, 3, 0, 4);
            x.askRow(7, GROWN, 3, 0, 30, 0, 4);
        });
        Calls.test("10 GROWN: the first PLACE", x -> x.text(1).terms(1).askRow(1, GROWN, 0, 0, 30, 0, 0));
        Calls.test("10 GROWN: the last PLACE, to the first", x -> {
            x.put(29, 1);
            x.terms(1).askRow(1, GROWN, 0, 0, 28, 1, 29);
            x.askRow(2, GROWN, 0, 0, 29, 0, 29);
            x.askRow(3, GROWN, 0, 0, 30, 0, 29);
        });
        Calls.test("10 GROWN: those that then hold another one are none of the row", x -> {
            x.text(0, 1, 1, 0, 1).terms(1).askRow(1, GROWN, 0, 0, 1, 0, 1, 1, 2, 3, 4);
            x.askRow(2, GROWN, 0, 0, 2, 0, 1, 2, 4);
            x.askRow(3, GROWN, 0, 0, 4, 0, 1);
        });
    }

    private static void joinedOutOfNone() {
        // Ask 0 has an interval, ask 1 has none.
        for (int kind : new int[] {BEHIND, NEAR, BOTH, HOLDING, IN, OVER}) {
            Calls.test("an ASK without INTERVALS for b, KIND " + kind, x -> {
                x.text(1).terms(2).askRow(2, kind, 0, 1, 30);
                x.covered(2).is(0);
                x.begin(2, 0).is(-1);
                x.end(2, 0).is(-1);
            });
        }
        for (int kind : new int[] {BEHIND, NEAR, BOTH, HOLDING, IN, OVER, FAR}) {
            Calls.test("an ASK without INTERVALS for a, KIND " + kind, x -> {
                x.text(1).terms(2).askRow(2, kind, 1, 0, 30);
                x.covered(2).is(0);
            });
        }
        Calls.test("an ASK without INTERVALS for b: 8 FAR has all of a", x -> {
            x.text(1).terms(2).askRow(2, FAR, 0, 1, 30, 0, 0);
        });
        for (int kind : WITH_A) {
            Calls.test("ASKS without INTERVALS for a and b, KIND " + kind, x -> {
                x.text(4).terms(2).askRow(2, kind, 0, 1, 30);
                x.covered(2).is(0);
            });
        }
    }
}
