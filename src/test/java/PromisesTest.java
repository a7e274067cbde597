/** One or more runs for each promise of the document, with answers worked out by hand. */
public final class PromisesTest {
    private static final int[] WRONG = {Integer.MIN_VALUE, -1000, Integer.MAX_VALUE};
    private static int wrong = 0;

    public static void main(String[] args) {
        newObjectIsEmpty();
        putAnswersWhatWasThere();
        putRefuses();
        clearCountsFilledPlaces();
        askNumbersRise();
        askRefusesInOrder();
        askTakesWhatDoesNotCount();
        askHasRoomForThirty();
        forgetDropsAsksAlone();
        termRows();
        eitherRows();
        behindRows();
        nearRows();
        bothRows();
        holdingAndInRows();
        overAndFarRows();
        firstAndGrownRows();
        rowsFollowTheText();
        intervalsThatAreNot();
        coveredCountsPlacesOnce();
        slotNumbersAndRefusals();
        unslotDropsSlotsAlone();
        choicesOfOneSlot();
        choicesOfTwoSlots();
        slotsWithCommonTermsKeepApart();
        slotsWithoutCommonTermsMayMeet();
        movedIsTheLeastSum();
        matchesAndWeightStopAtNine();
        chosenIsTheFirst();
        shortestIsTheFirst();
        phraseRefusals();
        phraseFollowsTextAndSlots();
        System.out.println(wrong == 0 ? "all answers are as due" : wrong + " answers are not as due");
        if (wrong != 0) {
            System.exit(1);
        }
    }

    private static void due(int promise, String call, long got, long want) {
        if (got != want) {
            wrong++;
            System.out.println("promise " + promise + ": " + call + " answered " + got + ", due is " + want);
        }
    }

    /** The text's places from 0, a set each. */
    private static PhraseMoves text(int... sets) {
        PhraseMoves x = new PhraseMoves();
        for (int place = 0; place < sets.length; place++) {
            due(2, "put(" + place + ", " + sets[place] + ") on a new object", x.put(place, sets[place]), 0);
        }
        return x;
    }

    /** The row of an ask, written as begin, end, begin, end, .. */
    private static void row(String what, PhraseMoves x, int ask, int... bounds) {
        int size = bounds.length / 2;
        due(6, what + ": count(" + ask + ")", x.count(ask), size);
        for (int k = 0; k < size; k++) {
            due(7, what + ": begin(" + ask + ", " + k + ")", x.begin(ask, k), bounds[2 * k]);
            due(8, what + ": end(" + ask + ", " + k + ")", x.end(ask, k), bounds[2 * k + 1]);
        }
        due(7, what + ": begin(" + ask + ", " + size + ")", x.begin(ask, size), -1);
        due(8, what + ": end(" + ask + ", " + size + ")", x.end(ask, size), -1);
    }

    private static void newObjectIsEmpty() {
        PhraseMoves x = new PhraseMoves();
        for (int place = 0; place < 30; place++) {
            due(1, "put(" + place + ", 0) on a new object", x.put(place, 0), 0);
        }
        due(1, "clear() on a new object", x.clear(), 0);
        due(1, "count(0) on a new object", x.count(0), -1);
        due(1, "forget() on a new object", x.forget(), 0);
        due(1, "chosen(0) on a new object", x.chosen(0), -1);
        due(1, "unslot() on a new object", x.unslot(), 0);
        PhraseMoves other = new PhraseMoves();
        x.put(3, 1);
        x.ask(0, 0, 0, 0);
        x.slot(0, 1);
        due(1, "put(3, 0) on another object", other.put(3, 0), 0);
        due(1, "forget() on another object", other.forget(), 0);
        due(1, "unslot() on another object", other.unslot(), 0);
    }

    private static void putAnswersWhatWasThere() {
        PhraseMoves x = new PhraseMoves();
        due(2, "put(0, 1)", x.put(0, 1), 0);
        due(2, "put(29, 512)", x.put(29, 512), 0);
        due(2, "put(0, 1023)", x.put(0, 1023), 1);
        due(2, "put(0, 0)", x.put(0, 0), 1023);
        due(2, "put(29, 513)", x.put(29, 513), 512);
        due(2, "put(29, 5)", x.put(29, 5), 513);
        due(2, "put(28, 5)", x.put(28, 5), 0);
    }

    private static void putRefuses() {
        PhraseMoves x = text(7);
        due(2, "put(-1, 1)", x.put(-1, 1), -1);
        due(2, "put(30, 1)", x.put(30, 1), -1);
        due(2, "put(30, 1024)", x.put(30, 1024), -1);
        due(2, "put(-1, -1)", x.put(-1, -1), -1);
        due(2, "put(0, 1024)", x.put(0, 1024), -2);
        due(2, "put(0, -1)", x.put(0, -1), -2);
        for (int bad : WRONG) {
            due(2, "put(" + bad + ", 1)", x.put(bad, 1), -1);
            due(2, "put(0, " + bad + ")", x.put(0, bad), -2);
        }
        due(2, "put(0, 0) behind refusals", x.put(0, 0), 7);
        due(2, "clear() behind refusals", x.clear(), 0);
    }

    private static void clearCountsFilledPlaces() {
        PhraseMoves x = text(1, 0, 1023);
        x.put(29, 512);
        x.ask(0, 0, 0, 0);
        x.slot(0, 1);
        due(3, "clear()", x.clear(), 3);
        due(3, "clear() again", x.clear(), 0);
        due(3, "put(0, 1) behind clear", x.put(0, 1), 0);
        due(3, "put(29, 1) behind clear", x.put(29, 1), 0);
        due(3, "count(0) behind clear", x.count(0), 2);
        due(3, "matches(0) behind clear", x.matches(0), 2);
        due(3, "clear() of two", x.clear(), 2);
        due(3, "count(0) in an empty text", x.count(0), 0);
        due(3, "matches(0) in an empty text", x.matches(0), 0);
        due(3, "forget() behind clear", x.forget(), 1);
        due(3, "unslot() behind clear", x.unslot(), 1);
        for (int place = 0; place < 30; place++) {
            x.put(place, 1);
        }
        due(3, "clear() of a full text", x.clear(), 30);
    }

    private static void askNumbersRise() {
        PhraseMoves x = new PhraseMoves();
        due(4, "ask(0, 0, 0, 0)", x.ask(0, 0, 0, 0), 0);
        due(4, "ask(0, 0, 0, 9)", x.ask(0, 0, 0, 9), 1);
        for (int kind = 1; kind <= 10; kind++) {
            due(4, "ask(" + kind + ", 0, 1, 30)", x.ask(kind, 0, 1, 30), 2 * kind);
            due(4, "ask(" + kind + ", 1, 0, 0)", x.ask(kind, 1, 0, 0), 2 * kind + 1);
        }
        due(4, "ask(1, 21, 21, 0)", x.ask(1, 21, 21, 0), 22);
        due(4, "ask(1, 23, 0, 0) of itself", x.ask(1, 23, 0, 0), -1);
        due(4, "ask(1, 0, 23, 0) of itself", x.ask(1, 0, 23, 0), -1);
        due(4, "ask(1, 22, 22, 0)", x.ask(1, 22, 22, 0), 23);
    }

    private static void askRefusesInOrder() {
        PhraseMoves x = new PhraseMoves();
        due(4, "ask(1, 0, 0, 0) without asks", x.ask(1, 0, 0, 0), -1);
        x.ask(0, 0, 0, 0);
        for (int bad : WRONG) {
            due(4, "ask(" + bad + ", 0, 0, 0)", x.ask(bad, 0, 0, 0), -2);
            due(4, "ask(0, 0, 0, " + bad + ")", x.ask(0, 0, 0, bad), -2);
        }
        due(4, "ask(-1, 0, 0, 0)", x.ask(-1, 0, 0, 0), -2);
        due(4, "ask(11, 0, 0, 0)", x.ask(11, 0, 0, 0), -2);
        due(4, "ask(11, 5, 5, 0)", x.ask(11, 5, 5, 0), -2);
        due(4, "ask(0, 0, 0, -1)", x.ask(0, 0, 0, -1), -2);
        due(4, "ask(0, 0, 0, 10)", x.ask(0, 0, 0, 10), -2);
        for (int kind : new int[] {2, 3, 4, 8, 9, 10}) {
            due(4, "ask(" + kind + ", 0, 0, 31)", x.ask(kind, 0, 0, 31), -2);
            due(4, "ask(" + kind + ", 0, 0, -1)", x.ask(kind, 0, 0, -1), -2);
            due(4, "ask(" + kind + ", 7, 7, 31)", x.ask(kind, 7, 7, 31), -2);
            for (int bad : WRONG) {
                due(4, "ask(" + kind + ", 0, 0, " + bad + ")", x.ask(kind, 0, 0, bad), -2);
            }
        }
        for (int kind = 1; kind <= 10; kind++) {
            due(4, "ask(" + kind + ", 1, 0, 3)", x.ask(kind, 1, 0, 3), -1);
            due(4, "ask(" + kind + ", -1, 0, 3)", x.ask(kind, -1, 0, 3), -1);
            for (int bad : WRONG) {
                due(4, "ask(" + kind + ", " + bad + ", 0, 3)", x.ask(kind, bad, 0, 3), -1);
            }
        }
        for (int kind = 1; kind <= 8; kind++) {
            due(4, "ask(" + kind + ", 0, 1, 3)", x.ask(kind, 0, 1, 3), -1);
            due(4, "ask(" + kind + ", 0, -1, 3)", x.ask(kind, 0, -1, 3), -1);
            for (int bad : WRONG) {
                due(4, "ask(" + kind + ", 0, " + bad + ", 3)", x.ask(kind, 0, bad, 3), -1);
            }
        }
        due(4, "forget() behind refusals", x.forget(), 1);
    }

    private static void askTakesWhatDoesNotCount() {
        PhraseMoves x = text(1, 2);
        int next = 0;
        for (int bad : WRONG) {
            due(4, "ask(0, " + bad + ", " + bad + ", 0)", x.ask(0, bad, bad, 0), next++);
            for (int kind : new int[] {1, 5, 6, 7}) {
                due(4, "ask(" + kind + ", 0, 0, " + bad + ")", x.ask(kind, 0, 0, bad), next++);
                row("kind " + kind + " whose n does not count", x, next - 1, 0, 0);
            }
            due(4, "ask(9, 0, " + bad + ", 30)", x.ask(9, 0, bad, 30), next++);
            due(4, "ask(10, 0, " + bad + ", 0)", x.ask(10, 0, bad, 0), next++);
            row("first whose b does not count", x, next - 2, 0, 0);
            row("grown whose b does not count", x, next - 1, 0, 0);
        }
    }

    private static void askHasRoomForThirty() {
        PhraseMoves x = text(1, 2);
        for (int i = 0; i < 30; i++) {
            due(4, "ask(0, 0, 0, " + i % 2 + ")", x.ask(0, 0, 0, i % 2), i);
        }
        due(4, "the 31st ask", x.ask(0, 0, 0, 0), -4);
        due(4, "the 31st ask of the 30th", x.ask(1, 29, 29, 0), -4);
        due(4, "the 31st ask with a wrong a", x.ask(1, 30, 0, 0), -1);
        due(4, "the 31st ask with a wrong b", x.ask(1, 0, 30, 0), -1);
        due(4, "the 31st ask with a wrong n", x.ask(0, 0, 0, 10), -2);
        due(4, "the 31st ask with a wrong kind", x.ask(11, 0, 0, 0), -2);
        row("the 30th ask", x, 29, 1, 1);
        due(6, "count(30)", x.count(30), -1);
        due(5, "forget() of 30", x.forget(), 30);
    }

    private static void forgetDropsAsksAlone() {
        PhraseMoves x = text(1, 2, 1);
        x.ask(0, 0, 0, 0);
        x.ask(0, 0, 0, 1);
        x.slot(0, 1);
        row("before forget", x, 0, 0, 0, 2, 2);
        due(5, "forget()", x.forget(), 2);
        due(5, "forget() again", x.forget(), 0);
        due(5, "count(0) behind forget", x.count(0), -1);
        due(5, "ask(1, 0, 0, 0) behind forget", x.ask(1, 0, 0, 0), -1);
        due(5, "ask(0, 0, 0, 1) behind forget", x.ask(0, 0, 0, 1), 0);
        row("behind forget", x, 0, 1, 1);
        due(5, "matches(0) behind forget", x.matches(0), 2);
        due(5, "clear() behind forget", x.clear(), 3);
        due(5, "unslot() behind forget", x.unslot(), 1);
    }

    private static void termRows() {
        PhraseMoves x = new PhraseMoves();
        x.put(0, 1);
        x.put(29, 1 + 512);
        x.put(7, 512 + 256);
        x.ask(0, 0, 0, 0);
        x.ask(0, 0, 0, 9);
        x.ask(0, 0, 0, 8);
        x.ask(0, 0, 0, 1);
        row("term 0", x, 0, 0, 0, 29, 29);
        row("term 9", x, 1, 7, 7, 29, 29);
        row("term 8", x, 2, 7, 7);
        row("term 1", x, 3);
        for (int place = 0; place < 30; place++) {
            x.put(place, 2);
        }
        due(6, "count(3) with the term on all places", x.count(3), 30);
        due(7, "begin(3, 29)", x.begin(3, 29), 29);
        due(8, "end(3, 29)", x.end(3, 29), 29);
    }

    private static void eitherRows() {
        // 0: A, 1: B, 2: C, 3: A and B, 4: C
        PhraseMoves x = text(1, 2, 4, 3, 4);
        x.ask(0, 0, 0, 0);
        x.ask(0, 0, 0, 1);
        x.ask(0, 0, 0, 2);
        x.ask(1, 0, 1, 0);
        row("either of two terms", x, 3, 0, 0, 1, 1, 3, 3);
        // A .. C: 0 .. 2 and 3 .. 4; the first holds the B at 1, the second has the same begin.
        x.ask(2, 0, 2, 5);
        row("behind", x, 4, 0, 2, 3, 4);
        x.ask(1, 4, 1, 0);
        row("either where one holds another", x, 5, 1, 1, 3, 3);
        x.ask(1, 1, 4, 0);
        row("either the other way", x, 6, 1, 1, 3, 3);
        x.ask(1, 4, 2, 0);
        row("either where the ends are the same", x, 7, 2, 2, 4, 4);
        x.ask(1, 4, 4, 0);
        row("either of the same", x, 8, 0, 2, 3, 4);
        PhraseMoves y = new PhraseMoves();
        y.put(28, 1);
        y.put(29, 2);
        y.ask(0, 0, 0, 0);
        y.ask(0, 0, 0, 1);
        y.ask(2, 0, 1, 0);
        y.ask(1, 2, 1, 0);
        row("either where the last place is held", y, 3, 29, 29);
    }

    private static void behindRows() {
        // A at 0, 1, 5; B at 3, 5, 29
        PhraseMoves x = text(1, 1, 0, 2, 0, 3);
        x.put(29, 2);
        x.ask(0, 0, 0, 0);
        x.ask(0, 0, 0, 1);
        x.ask(2, 0, 1, 0);
        row("behind with none between", x, 2);
        x.ask(2, 0, 1, 1);
        row("behind with one between", x, 3, 1, 3);
        x.ask(2, 0, 1, 22);
        row("behind with 22 between", x, 4, 1, 3);
        x.ask(2, 0, 1, 23);
        row("behind with 23 between", x, 5, 1, 3, 5, 29);
        x.ask(2, 1, 0, 1);
        row("b behind a the other way", x, 6, 3, 5);
        x.ask(2, 0, 0, 30);
        row("behind itself", x, 7, 0, 1, 1, 5);
        x.ask(2, 3, 3, 30);
        row("behind itself, only one", x, 8);
        // 0 .. 1 and then B: 3 is one place behind.
        x.ask(2, 7, 1, 1);
        row("behind of joined ones", x, 9, 0, 3);
        x.ask(2, 7, 1, 0);
        row("behind of joined ones, too near", x, 10);
        x.put(2, 2);
        row("behind with none between", x, 2, 1, 2);
    }

    private static void nearRows() {
        // B at 0, A at 2, B at 5, both at 9
        PhraseMoves x = text(2, 0, 1, 0, 0, 2, 0, 0, 0, 3);
        x.ask(0, 0, 0, 0);
        x.ask(0, 0, 0, 1);
        x.ask(3, 0, 1, 1);
        row("near by 1", x, 2, 0, 2);
        x.ask(3, 0, 1, 2);
        row("near by 2", x, 3, 0, 2, 2, 5);
        x.ask(3, 1, 0, 3);
        row("near by 3", x, 4, 0, 2, 2, 5, 5, 9);
        x.ask(3, 0, 1, 0);
        row("near by 0", x, 5);
        // A, B, A: B A at 1 .. 2 and A B at 0 .. 1
        PhraseMoves y = text(1, 2, 1);
        y.ask(0, 0, 0, 0);
        y.ask(0, 0, 0, 1);
        y.ask(3, 0, 1, 0);
        row("near both ways", y, 2, 0, 1, 1, 2);
    }

    private static void bothRows() {
        // A at 0, both at 3, B at 4, A at 7
        PhraseMoves x = text(1, 0, 0, 3, 2, 0, 0, 1);
        x.ask(0, 0, 0, 0);
        x.ask(0, 0, 0, 1);
        x.ask(4, 0, 1, 0);
        row("both in no places", x, 2);
        x.ask(4, 0, 1, 1);
        row("both in one place", x, 3, 3, 3);
        x.ask(4, 0, 1, 3);
        row("both in three places", x, 4, 3, 3);
        x.ask(4, 0, 1, 4);
        row("both in four places", x, 5, 3, 3, 4, 7);
        x.ask(4, 1, 0, 30);
        row("both in thirty places", x, 6, 3, 3, 4, 7);
        x.ask(4, 0, 0, 1);
        row("both of the same", x, 7, 0, 0, 3, 3, 7, 7);
        x.put(3, 0);
        row("both in four places", x, 5, 4, 7);
        row("both in thirty places", x, 6, 0, 4, 4, 7);
        PhraseMoves y = new PhraseMoves();
        y.put(0, 1);
        y.put(29, 2);
        y.ask(0, 0, 0, 0);
        y.ask(0, 0, 0, 1);
        y.ask(4, 0, 1, 29);
        y.ask(4, 0, 1, 30);
        y.ask(4, 1, 0, 30);
        row("both in 29 places", y, 2);
        row("both in 30 places", y, 3, 0, 29);
        row("both in 30 places the other way", y, 4, 0, 29);
    }

    private static void holdingAndInRows() {
        // A C B at 0 .. 2, A B at 4 .. 5, C at 6; all three at 8
        PhraseMoves x = text(1, 4, 2, 0, 1, 2, 4, 0, 7);
        x.ask(0, 0, 0, 0);
        x.ask(0, 0, 0, 1);
        x.ask(0, 0, 0, 2);
        x.ask(2, 0, 1, 1);
        row("A before B", x, 3, 0, 2, 4, 5);
        x.ask(5, 3, 2, 0);
        row("holding C", x, 4, 0, 2);
        x.ask(5, 3, 0, 0);
        row("holding A at the begin", x, 5, 0, 2, 4, 5);
        x.ask(5, 3, 1, 0);
        row("holding B at the end", x, 6, 0, 2, 4, 5);
        x.ask(5, 3, 4, 0);
        row("holding the same", x, 7, 0, 2);
        x.ask(5, 2, 3, 0);
        row("C holding A before B", x, 8);
        x.ask(6, 2, 3, 0);
        row("C in A before B", x, 9, 1, 1);
        x.ask(6, 0, 3, 0);
        row("A in A before B", x, 10, 0, 0, 4, 4);
        x.ask(6, 1, 3, 0);
        row("B in A before B", x, 11, 2, 2, 5, 5);
        x.ask(6, 3, 4, 0);
        row("in the same", x, 12, 0, 2);
        x.ask(6, 3, 2, 0);
        row("A before B in C", x, 13);
        x.ask(5, 0, 2, 0);
        row("a place holding the same place", x, 14, 8, 8);
        x.ask(6, 0, 2, 0);
        row("a place in the same place", x, 15, 8, 8);
        // Grown C: 0 .. 1 and 5 .. 6 and 7 .. 8: 4 .. 5 and 5 .. 6 have but 5 in common.
        x.ask(10, 2, 0, 1);
        x.ask(5, 3, 16, 0);
        row("holding grown ones", x, 17, 0, 2);
        x.ask(6, 3, 16, 0);
        row("in grown ones", x, 18);
    }

    private static void overAndFarRows() {
        // A B at 0 .. 1 and at 10 .. 11; C D at 1 .. 2, 5 .. 6, 12 .. 13
        PhraseMoves x = text(1, 2 + 4, 8, 0, 0, 4, 8, 0, 0, 0, 1, 2, 4, 8);
        for (int term = 0; term < 4; term++) {
            x.ask(0, 0, 0, term);
        }
        x.ask(2, 0, 1, 0);
        row("A B", x, 4, 0, 1, 10, 11);
        x.ask(2, 2, 3, 0);
        row("C D", x, 5, 1, 2, 5, 6, 12, 13);
        x.ask(7, 4, 5, 0);
        row("over at the end", x, 6, 0, 1);
        x.ask(7, 5, 4, 0);
        row("over at the begin", x, 7, 1, 2);
        x.ask(7, 4, 4, 0);
        row("over the same", x, 8, 0, 1, 10, 11);
        x.ask(8, 4, 5, 0);
        row("far by 0 where they touch", x, 9);
        x.ask(8, 5, 4, 0);
        row("far by 0", x, 10, 5, 6);
        x.ask(8, 5, 4, 2);
        row("far by 2", x, 11, 5, 6);
        x.ask(8, 5, 4, 3);
        row("far by 3, of which three are before or behind", x, 12);
        x.ask(8, 4, 10, 2);
        row("far from 5 .. 6 by 2", x, 13, 0, 1, 10, 11);
        x.ask(8, 4, 10, 3);
        row("far from 5 .. 6 by 3", x, 14);
        x.ask(8, 4, 9, 30);
        row("far from none", x, 15, 0, 1, 10, 11);
        x.ask(7, 4, 9, 0);
        row("over none", x, 16);
        x.put(7, 8);
        x.put(6, 0);
        row("far by 2 from one behind", x, 13, 0, 1, 10, 11);
    }

    private static void firstAndGrownRows() {
        PhraseMoves x = new PhraseMoves();
        x.put(0, 1);
        x.put(3, 1);
        x.put(4, 2);
        x.put(29, 1);
        x.ask(0, 0, 0, 0);
        x.ask(9, 0, 0, 0);
        x.ask(9, 0, 0, 1);
        x.ask(9, 0, 0, 3);
        x.ask(9, 0, 0, 4);
        x.ask(9, 0, 0, 29);
        x.ask(9, 0, 0, 30);
        row("first before 0", x, 1);
        row("first before 1", x, 2, 0, 0);
        row("first before 3", x, 3, 0, 0);
        row("first before 4", x, 4, 0, 0, 3, 3);
        row("first before 29", x, 5, 0, 0, 3, 3);
        row("first before 30", x, 6, 0, 0, 3, 3, 29, 29);
        x.ask(10, 0, 0, 0);
        row("grown by 0", x, 7, 0, 0, 3, 3, 29, 29);
        x.ask(10, 0, 0, 1);
        row("grown by 1", x, 8, 0, 0, 2, 3, 28, 29);
        x.ask(10, 0, 0, 3);
        row("grown to the begin of the text", x, 9, 0, 0, 26, 29);
        x.ask(10, 0, 0, 30);
        row("grown by 30", x, 10, 0, 0);
        x.ask(9, 8, 0, 3);
        row("first goes by the end", x, 11, 0, 0);
        x.ask(0, 0, 0, 1);
        x.ask(2, 0, 12, 0);
        x.ask(10, 13, 0, 2);
        row("grown of a joined one", x, 14, 1, 4);
        x.put(0, 0);
        row("grown by 3 without the first", x, 9, 0, 3, 26, 29);
        row("grown by 30 without the first", x, 10, 0, 3);
    }

    private static void rowsFollowTheText() {
        PhraseMoves x = text(1, 2);
        x.ask(0, 0, 0, 0);
        x.ask(0, 0, 0, 1);
        x.ask(2, 0, 1, 0);
        row("at first", x, 2, 0, 1);
        x.put(1, 0);
        row("behind put", x, 2);
        x.put(1, 2);
        row("put again", x, 2, 0, 1);
        x.put(2, 2);
        x.put(1, 1);
        row("moved", x, 2, 1, 2);
        x.clear();
        row("behind clear", x, 2);
        x.put(28, 1);
        x.put(29, 2);
        row("at the end of the text", x, 2, 28, 29);
        x.put(28, 1024);
        x.put(30, 0);
        row("behind refusals", x, 2, 28, 29);
        // A low ask first and a higher one next, so that not all rows are worked out at once.
        x.put(28, 0);
        row("term first", x, 0);
        row("joined next", x, 2);
        x.forget();
        x.ask(0, 0, 0, 1);
        row("another ask by the same number", x, 0, 29, 29);
    }

    private static void intervalsThatAreNot() {
        PhraseMoves x = text(1, 1);
        x.ask(0, 0, 0, 0);
        due(7, "begin(0, -1)", x.begin(0, -1), -1);
        due(8, "end(0, -1)", x.end(0, -1), -1);
        for (int bad : new int[] {-1, 1, 29, 30, Integer.MIN_VALUE, Integer.MAX_VALUE}) {
            due(6, "count(" + bad + ")", x.count(bad), -1);
            due(7, "begin(" + bad + ", 0)", x.begin(bad, 0), -1);
            due(8, "end(" + bad + ", 0)", x.end(bad, 0), -1);
            due(9, "covered(" + bad + ")", x.covered(bad), -1);
        }
        for (int bad : new int[] {2, 29, 30, Integer.MIN_VALUE, Integer.MAX_VALUE}) {
            due(7, "begin(0, " + bad + ")", x.begin(0, bad), -1);
            due(8, "end(0, " + bad + ")", x.end(0, bad), -1);
        }
    }

    private static void coveredCountsPlacesOnce() {
        // A at 0, 2, 4, 10: A .. A at 0 .. 2, 2 .. 4, 4 .. 10
        PhraseMoves x = text(1, 0, 1, 0, 1, 0, 0, 0, 0, 0, 1);
        x.ask(0, 0, 0, 0);
        x.ask(2, 0, 0, 1);
        x.ask(2, 0, 0, 30);
        x.ask(0, 0, 0, 1);
        x.ask(10, 0, 0, 2);
        x.ask(2, 0, 2, 30);
        due(9, "covered(0)", x.covered(0), 4);
        due(9, "covered(1)", x.covered(1), 5);
        due(9, "covered(2)", x.covered(2), 11);
        due(9, "covered(3)", x.covered(3), 0);
        // 0 .. 0, 2 .. 4, 8 .. 10; that of 2 is 0 .. 2, which holds 0 .. 0
        due(9, "covered(4)", x.covered(4), 7);
        // 0 .. 4 and 2 .. 10
        due(9, "covered(5)", x.covered(5), 11);
        x.clear();
        x.put(0, 1);
        x.put(29, 1);
        due(9, "covered(2) of the whole text", x.covered(2), 30);
    }

    private static void slotNumbersAndRefusals() {
        PhraseMoves x = text(1023);
        due(10, "slot(10, 1)", x.slot(10, 1), -2);
        due(10, "slot(-1, 1)", x.slot(-1, 1), -2);
        due(10, "slot(0, 1024)", x.slot(0, 1024), -2);
        due(10, "slot(0, -1)", x.slot(0, -1), -2);
        for (int bad : WRONG) {
            due(10, "slot(" + bad + ", 1)", x.slot(bad, 1), -2);
            due(10, "slot(0, " + bad + ")", x.slot(0, bad), -2);
        }
        due(10, "unslot() behind refusals", x.unslot(), 0);
        due(10, "slot(0, 1)", x.slot(0, 1), 0);
        due(10, "slot(9, 512)", x.slot(9, 512), 1);
        due(10, "slot(0, 2)", x.slot(0, 2), 2);
        due(10, "slot(5, 4)", x.slot(5, 4), 3);
        due(10, "the fifth slot", x.slot(0, 8), -4);
        due(10, "the fifth slot with a wrong offset", x.slot(10, 8), -2);
        due(10, "the fifth slot with a wrong set", x.slot(0, 1024), -2);
        due(10, "chosen(3)", x.chosen(3), 0);
        due(10, "chosen(4)", x.chosen(4), -1);
        // 0, -9, 0, -5: by m = 0 or -5
        due(14, "least()", x.least(), 14);
        due(10, "unslot() of four", x.unslot(), 4);
        due(10, "slot(0, 0)", x.slot(0, 0), 0);
        due(14, "least() with an empty set", x.least(), -3);
        due(10, "slot(0, 1023)", x.slot(0, 1023), 1);
        due(14, "least() with an empty set and a full one", x.least(), -3);
    }

    private static void unslotDropsSlotsAlone() {
        PhraseMoves x = text(1, 1);
        x.ask(0, 0, 0, 0);
        x.slot(0, 1);
        due(12, "matches(0)", x.matches(0), 2);
        due(11, "unslot()", x.unslot(), 1);
        due(11, "unslot() again", x.unslot(), 0);
        due(11, "matches(9) without slots", x.matches(9), 0);
        due(11, "weight(9) without slots", x.weight(9), 0);
        due(11, "least() without slots", x.least(), -3);
        due(11, "ties() without slots", x.ties(), 0);
        due(11, "chosen(0) without slots", x.chosen(0), -1);
        due(11, "shortest(0) without slots", x.shortest(0), -3);
        due(11, "count(0) behind unslot", x.count(0), 2);
        due(11, "slot(0, 2) behind unslot", x.slot(0, 2), 0);
        due(11, "forget() behind unslot", x.forget(), 1);
        due(11, "clear() behind unslot", x.clear(), 2);
    }

    private static void choicesOfOneSlot() {
        PhraseMoves x = new PhraseMoves();
        x.put(2, 1);
        x.put(5, 3);
        x.put(29, 512);
        x.put(12, 256);
        x.slot(9, 1 + 512);
        due(12, "matches(0)", x.matches(0), 3);
        due(12, "matches(9)", x.matches(9), 3);
        due(13, "weight(0)", x.weight(0), 3 * 2520);
        due(13, "weight(9)", x.weight(9), 3 * 2520);
        due(14, "least()", x.least(), 0);
        due(15, "chosen(0)", x.chosen(0), 2);
        due(16, "ties()", x.ties(), 3);
        due(17, "shortest(0)", x.shortest(0), 2);
        due(17, "shortest(1)", x.shortest(1), 2);
    }

    private static void choicesOfTwoSlots() {
        // A at 0, 4; B at 2, 5, 29. B less 1 from A: 1, 4, 28 and -3, 0, 24
        PhraseMoves x = text(1, 0, 2, 0, 1, 2);
        x.put(29, 2);
        x.slot(0, 1);
        x.slot(1, 2);
        due(12, "matches(0)", x.matches(0), 1);
        due(12, "matches(1)", x.matches(1), 2);
        due(12, "matches(2)", x.matches(2), 2);
        due(12, "matches(3)", x.matches(3), 3);
        due(12, "matches(4)", x.matches(4), 4);
        due(12, "matches(9)", x.matches(9), 4);
        due(13, "weight(0)", x.weight(0), 2520);
        due(13, "weight(1)", x.weight(1), 2520 + 1260);
        due(13, "weight(2)", x.weight(2), 2520 + 1260);
        due(13, "weight(3)", x.weight(3), 2520 + 1260 + 630);
        due(13, "weight(9)", x.weight(9), 2520 + 1260 + 630 + 504);
        due(14, "least()", x.least(), 0);
        due(15, "chosen(0)", x.chosen(0), 4);
        due(15, "chosen(1)", x.chosen(1), 5);
        due(16, "ties()", x.ties(), 1);
        due(17, "shortest(0)", x.shortest(0), 4);
        due(17, "shortest(1)", x.shortest(1), 5);
    }

    private static void slotsWithCommonTermsKeepApart() {
        // The places have but one term that both slots want.
        PhraseMoves x = text(1, 2);
        x.slot(0, 3);
        x.slot(0, 3);
        due(12, "matches(9)", x.matches(9), 2);
        due(14, "least()", x.least(), 1);
        due(16, "ties()", x.ties(), 2);
        due(15, "chosen(0)", x.chosen(0), 0);
        due(15, "chosen(1)", x.chosen(1), 1);
        due(17, "shortest(1)", x.shortest(1), 1);
        x.put(1, 0);
        due(12, "matches(9) on one place", x.matches(9), 0);
        due(14, "least() on one place", x.least(), -3);
        due(17, "shortest(0) on one place", x.shortest(0), -3);
        // The sets have term 0 in common, though the place meets them by other terms.
        PhraseMoves y = text(6);
        y.slot(0, 1 + 2);
        y.slot(0, 1 + 4);
        due(12, "matches(9) where the common term is not in the text", y.matches(9), 0);
        due(16, "ties() of none", y.ties(), 0);
        // The first and the last slot, with one between that is free.
        PhraseMoves z = text(1 + 2, 1);
        z.slot(0, 1);
        z.slot(0, 2);
        z.slot(0, 1);
        due(12, "matches(9) of three", z.matches(9), 2);
    }

    private static void slotsWithoutCommonTermsMayMeet() {
        PhraseMoves x = new PhraseMoves();
        x.put(29, 15);
        for (int slot = 0; slot < 4; slot++) {
            x.slot(0, 1 << slot);
        }
        due(12, "matches(0)", x.matches(0), 1);
        due(14, "least()", x.least(), 0);
        due(15, "chosen(3)", x.chosen(3), 29);
        due(17, "shortest(0)", x.shortest(0), 29);
        due(17, "shortest(1)", x.shortest(1), 29);
    }

    private static void movedIsTheLeastSum() {
        // Three slots at 0, 3, 10 are moved by 10, not by the sum from the first, 13.
        PhraseMoves x = new PhraseMoves();
        x.put(0, 1);
        x.put(3, 2);
        x.put(10, 4);
        x.slot(0, 1);
        x.slot(0, 2);
        x.slot(0, 4);
        due(14, "least() of three", x.least(), 10);
        due(12, "matches(9) of three", x.matches(9), 0);
        x.put(12, 8);
        x.slot(0, 8);
        // 0, 3, 10, 12: 12 and 7
        due(14, "least() of four", x.least(), 19);
        due(16, "ties() of four", x.ties(), 1);
        x.unslot();
        x.slot(9, 1);
        x.slot(0, 4);
        // -9 and 10
        due(14, "least() with an offset", x.least(), 19);
        // 10, 4, 5: from 4 to 10
        PhraseMoves z = new PhraseMoves();
        z.put(10, 1);
        z.put(4, 2);
        z.put(5, 4);
        z.slot(0, 1);
        z.slot(0, 2);
        z.slot(0, 4);
        due(13, "weight(9) as the first call", z.weight(9), 360);
        due(14, "least() of a falling phrase", z.least(), 6);
        // The greatest there is: -9, -9, 29, 29
        PhraseMoves y = new PhraseMoves();
        y.put(0, 3);
        y.put(29, 12);
        y.slot(9, 1);
        y.slot(9, 2);
        y.slot(0, 4);
        y.slot(0, 8);
        due(14, "least() of the greatest", y.least(), 76);
        due(16, "ties() of the greatest", y.ties(), 1);
        due(15, "chosen(2) of the greatest", y.chosen(2), 29);
        due(12, "matches(9) of the greatest", y.matches(9), 0);
        due(13, "weight(9) of the greatest", y.weight(9), 0);
    }

    private static void matchesAndWeightStopAtNine() {
        // A at 0; B at 0 .. 29: moved by 0 .. 29
        PhraseMoves x = new PhraseMoves();
        for (int place = 0; place < 30; place++) {
            x.put(place, place == 0 ? 3 : 2);
        }
        x.slot(0, 1);
        x.slot(0, 2);
        long sum = 0;
        for (int slop = 0; slop <= 9; slop++) {
            sum += 2520 / (slop + 1);
            due(12, "matches(" + slop + ")", x.matches(slop), slop + 1);
            due(13, "weight(" + slop + ")", x.weight(slop), sum);
        }
        // All places for all slots: 30 places where all meet.
        PhraseMoves y = new PhraseMoves();
        for (int place = 0; place < 30; place++) {
            y.put(place, 15);
        }
        for (int slot = 0; slot < 4; slot++) {
            y.slot(9, 1 << slot);
        }
        due(12, "matches(0) of a full text", y.matches(0), 30);
        due(13, "weight(0) of a full text", y.weight(0), 30 * 2520);
        due(16, "ties() of a full text", y.ties(), 30);
    }

    private static void chosenIsTheFirst() {
        // A at 0 and 9, B at 4 and 5: A B by 4, 5, B A by 5, 4
        PhraseMoves x = text(1, 0, 0, 0, 2, 2, 0, 0, 0, 1);
        x.slot(0, 1);
        x.slot(0, 2);
        due(14, "least()", x.least(), 4);
        due(16, "ties()", x.ties(), 2);
        due(15, "chosen(0)", x.chosen(0), 0);
        due(15, "chosen(1)", x.chosen(1), 4);
        x.unslot();
        x.slot(0, 2);
        x.slot(0, 1);
        // 4 with 0 and 5 with 9
        due(15, "chosen(0) the other way", x.chosen(0), 4);
        due(15, "chosen(1) the other way", x.chosen(1), 0);
        x.put(4, 0);
        due(15, "chosen(0) without the first", x.chosen(0), 5);
        due(15, "chosen(1) without the first", x.chosen(1), 9);
        // A at 5; B at 3 and 7: the same for slot 0, so slot 1 decides.
        PhraseMoves y = text(0, 0, 0, 2, 0, 1, 0, 2);
        y.slot(0, 1);
        y.slot(0, 2);
        due(14, "least() by slot 1", y.least(), 2);
        due(16, "ties() by slot 1", y.ties(), 2);
        due(15, "chosen(1) by slot 1", y.chosen(1), 3);
        // More than nine, with ties.
        PhraseMoves z = new PhraseMoves();
        z.put(0, 2);
        z.put(15, 1);
        z.put(29, 2);
        z.slot(1, 2);
        z.slot(2, 1);
        // -1 and 13, 28 and 13: 14 and 15
        due(14, "least() beyond nine", z.least(), 14);
        z.put(28, 2);
        // 27 and 13: 14 as well
        due(16, "ties() beyond nine", z.ties(), 2);
        due(15, "chosen(0) beyond nine", z.chosen(0), 0);
    }

    private static void shortestIsTheFirst() {
        // A B at 3 .. 4, B A at 0 .. 1 by the order of places, A and B at 8 .. 9
        PhraseMoves x = text(2, 1, 0, 1, 2, 0, 0, 0, 1, 2);
        x.slot(0, 1);
        x.slot(1, 2);
        due(14, "least()", x.least(), 0);
        due(15, "chosen(0)", x.chosen(0), 3);
        due(17, "shortest(0)", x.shortest(0), 0);
        due(17, "shortest(1)", x.shortest(1), 1);
        x.put(9, 3);
        due(17, "shortest(0) of one place", x.shortest(0), 9);
        due(17, "shortest(1) of one place", x.shortest(1), 9);
        // The least moved one is far longer than the shortest.
        PhraseMoves y = new PhraseMoves();
        y.put(0, 1);
        y.put(9, 2);
        y.put(12, 1);
        y.put(14, 2);
        y.slot(0, 1);
        y.slot(9, 2);
        due(14, "least() of the long one", y.least(), 0);
        due(15, "chosen(1) of the long one", y.chosen(1), 9);
        due(17, "shortest(0) beside it", y.shortest(0), 12);
        due(17, "shortest(1) beside it", y.shortest(1), 14);
        // One with a lesser begin comes later in the order of places, and is longer.
        PhraseMoves v = text(2, 0, 0, 0, 0, 1, 2, 0, 0, 1);
        v.slot(0, 1);
        v.slot(0, 2);
        due(17, "shortest(0) before a longer one", v.shortest(0), 5);
        due(17, "shortest(1) before a longer one", v.shortest(1), 6);
        // A long one where a short one was.
        PhraseMoves w = new PhraseMoves();
        w.put(20, 1);
        w.put(21, 2);
        w.slot(0, 1);
        w.slot(0, 2);
        due(17, "shortest(0) of a short one", w.shortest(0), 20);
        w.put(20, 0);
        w.put(0, 1);
        due(17, "shortest(0) of a long one", w.shortest(0), 0);
        due(17, "shortest(1) of a long one", w.shortest(1), 21);
        // The whole text.
        PhraseMoves z = new PhraseMoves();
        z.put(0, 1);
        z.put(29, 2);
        z.slot(0, 2);
        z.slot(0, 1);
        due(17, "shortest(0) of the whole text", z.shortest(0), 0);
        due(17, "shortest(1) of the whole text", z.shortest(1), 29);
    }

    private static void phraseRefusals() {
        PhraseMoves x = text(1);
        for (int round = 0; round < 2; round++) {
            due(12, "matches(-1)", x.matches(-1), -2);
            due(12, "matches(10)", x.matches(10), -2);
            due(13, "weight(-1)", x.weight(-1), -2);
            due(13, "weight(10)", x.weight(10), -2);
            due(15, "chosen(-1)", x.chosen(-1), -1);
            due(15, "chosen(1)", x.chosen(1), -1);
            due(15, "chosen(4)", x.chosen(4), -1);
            due(17, "shortest(-1)", x.shortest(-1), -2);
            due(17, "shortest(2)", x.shortest(2), -2);
            for (int bad : WRONG) {
                due(12, "matches(" + bad + ")", x.matches(bad), -2);
                due(13, "weight(" + bad + ")", x.weight(bad), -2);
                due(15, "chosen(" + bad + ")", x.chosen(bad), -1);
                due(17, "shortest(" + bad + ")", x.shortest(bad), -2);
            }
            x.slot(0, 2);
        }
        due(15, "chosen(0) where there is none", x.chosen(0), -3);
        due(15, "chosen(2) where there is none", x.chosen(2), -1);
        due(14, "least() where there is none", x.least(), -3);
        due(16, "ties() where there is none", x.ties(), 0);
        due(17, "shortest(0) where there is none", x.shortest(0), -3);
        due(17, "shortest(1) where there is none", x.shortest(1), -3);
        due(17, "shortest(2) where there is none", x.shortest(2), -2);
    }

    private static void phraseFollowsTextAndSlots() {
        PhraseMoves x = text(1, 2, 1);
        x.slot(0, 1);
        due(16, "ties()", x.ties(), 2);
        x.slot(1, 2);
        due(16, "ties() with one more slot", x.ties(), 1);
        due(15, "chosen(1)", x.chosen(1), 1);
        x.put(3, 2);
        due(16, "ties() with one more place", x.ties(), 2);
        x.put(0, 0);
        due(15, "chosen(0) with one place less", x.chosen(0), 2);
        due(17, "shortest(0) with one place less", x.shortest(0), 1);
        x.put(0, 1024);
        x.slot(10, 0);
        due(15, "chosen(0) behind refusals", x.chosen(0), 2);
        x.clear();
        due(15, "chosen(0) behind clear", x.chosen(0), -3);
        due(17, "shortest(0) behind clear", x.shortest(0), -3);
        x.put(5, 3);
        due(14, "least() on one place", x.least(), 1);
        x.unslot();
        due(14, "least() behind unslot", x.least(), -3);
    }
}
