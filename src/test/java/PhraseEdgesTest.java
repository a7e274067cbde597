/** The edges of promises 10 to 17: the phrase. One test for each case that the document names. */
public final class PhraseEdgesTest {
    private static final int[] NO_OFFSETS = {-1, 10, 11, Calls.LEAST_INT, Calls.GREATEST_INT};
    private static final int[] NO_SETS = {-1, 1024, 1025, 2047, 1 << 16, 1 << 30, Calls.LEAST_INT, Calls.GREATEST_INT};
    private static final int[] NO_SLOPS = {-1, 10, 11, Calls.LEAST_INT, Calls.GREATEST_INT};
    private static final int[] NO_ENDS = {-1, 2, 3, Calls.LEAST_INT, Calls.GREATEST_INT};
    /** None of these is a slot where there are slots 0 and 1 alone. */
    private static final int[] NO_SLOTS_OF_TWO = {-1, 2, 3, 4, 5, Calls.LEAST_INT, Calls.GREATEST_INT};

    public static void main(String[] args) {
        slots();
        unslot();
        choices();
        moved();
        matches();
        weight();
        least();
        chosen();
        ties();
        shortest();
        withoutSlots();
        withoutChoice();
        theTextAsItIs();
        Calls.endOfTests();
    }

    private static Calls fourSlots(Calls x) {
        for (int slot = 0; slot < 4; slot++) {
            x.slot(slot, 1 << slot).is(slot);
        }
        return x;
    }

    private static void slots() {
        Calls.test("10: an OFFSET (0 to 9): the least", x -> x.slot(0, 1).is(0));
        Calls.test("10: an OFFSET (0 to 9): the greatest", x -> {
            x.slot(9, 1).is(0);
            x.slot(0, 2).is(1);
            x.put(29, 1);
            x.put(20, 2);
            x.least().is(0);
        });
        for (int offset : NO_OFFSETS) {
            Calls.test("10: -2: an OFFSET (0 to 9)", x -> {
                x.slot(offset, 1).is(-2);
                x.unslot().is(0);
            });
        }
        Calls.test("10: a SET of TERMS: the empty one has no PLACE", x -> {
            x.fill(0, 29, 1023).slot(0, 0).is(0);
            x.least().is(-3);
            x.chosen(0).is(-3);
        });
        Calls.test("10: a SET of TERMS: all of them have every PLACE that is not empty", x -> {
            for (int term = 0; term < 10; term++) {
                x.put(3 * term, 1 << term);
            }
            x.slot(0, 1023).is(0);
            x.matches(0).is(10);
        });
        for (int term = 0; term < 10; term++) {
            int one = term;
            Calls.test("10: a SET of TERMS (bits 0 .. 9): bit " + term, x -> {
                x.put(4, 1023 - (1 << one));
                x.put(6, 1 << one);
                x.slot(0, 1 << one).is(0);
                x.matches(0).is(1);
                x.chosen(0).is(6);
            });
        }
        for (int set : NO_SETS) {
            Calls.test("10: -2: a SET of TERMS (bits 0 .. 9)", x -> {
                x.slot(0, set).is(-2);
                x.unslot().is(0);
            });
        }
        Calls.test("10: 4 at most: the fourth", x -> {
            x.put(3, 15);
            fourSlots(x).chosen(3).is(3);
            x.unslot().is(4);
        });
        Calls.test("10: -4: the fifth", x -> {
            x.put(3, 31);
            fourSlots(x).slot(4, 16).is(-4);
            x.chosen(4).is(-1);
            x.matches(9).is(1);
            x.unslot().is(4);
        });
        for (int offset : NO_OFFSETS) {
            Calls.test("10: the first that fits: -2 the OFFSET ahead of -4", x -> fourSlots(x).slot(offset, 1).is(-2));
        }
        for (int set : NO_SETS) {
            Calls.test("10: the first that fits: -2 the SET ahead of -4", x -> fourSlots(x).slot(0, set).is(-2));
        }
        Calls.test("10: -2: both are outside", x -> x.slot(10, 1024).is(-2));
        Calls.test("10: -4: refusals take no room", x -> {
            for (int slot = 0; slot < 4; slot++) {
                x.slot(10, 1).is(-2);
                x.slot(0, 1024).is(-2);
                x.slot(0, 1).is(slot);
            }
            x.slot(0, 1).is(-4);
        });
    }

    private static void unslot() {
        Calls.test("11: how many there were: none", x -> x.unslot().is(0));
        Calls.test("11: how many there were: one", x -> {
            x.slot(0, 1);
            x.unslot().is(1);
        });
        Calls.test("11: how many there were: four", x -> fourSlots(x).unslot().is(4));
        Calls.test("11: no SLOTS any more", x -> {
            x.put(3, 1);
            x.slot(0, 1);
            x.chosen(0).is(3);
            x.unslot().is(1);
            x.unslot().is(0);
            x.chosen(0).is(-1);
            x.least().is(-3);
            x.ties().is(0);
            x.matches(9).is(0);
            x.weight(9).is(0);
            x.shortest(0).is(-3);
            x.shortest(1).is(-3);
        });
        Calls.test("11: no SLOTS any more: there is room for four again, numbered 0, 1, ..", x -> {
            fourSlots(x).slot(0, 1).is(-4);
            x.unslot().is(4);
            fourSlots(x).slot(0, 1).is(-4);
        });
        Calls.test("11: no SLOTS any more: the TEXT and the ASKS stay", x -> {
            x.text(1, 2).terms(2).slot(0, 1).is(0);
            x.unslot().is(1);
            x.row(1, 1, 1);
            x.forget().is(2);
            x.clear().is(2);
        });
    }

    private static void choices() {
        Calls.test("two SLOTS whose SETS have a TERM in common have different PLACES: one PLACE is too few", x -> {
            x.put(3, 1);
            x.slot(0, 1);
            x.slot(0, 1);
            x.matches(9).is(0);
            x.put(4, 1);
            x.matches(9).is(2);
        });
        Calls.test("a TERM in common: it need not be at the PLACE", x -> {
            x.put(3, 2 + 4);
            x.slot(0, 1 + 2);
            x.slot(0, 1 + 4);
            x.least().is(-3);
        });
        Calls.test("a TERM in common: the last one", x -> {
            x.put(3, 2 + 4);
            x.slot(0, 512 + 2);
            x.slot(0, 512 + 4);
            x.least().is(-3);
        });
        Calls.test("no TERM in common: the same PLACE", x -> {
            x.put(3, 2 + 4);
            x.slot(0, 1 + 2);
            x.slot(0, 8 + 4);
            x.least().is(0);
            x.matches(9).is(1);
            x.shortest(0).is(3);
            x.shortest(1).is(3);
        });
        for (int other = 1; other < 4; other++) {
            int one = other;
            Calls.test("a TERM in common: SLOT 0 and SLOT " + other, x -> {
                x.text(15, 1);
                for (int slot = 0; slot < 4; slot++) {
                    x.slot(0, slot == 0 || slot == one ? 1 : 1 << slot).is(slot);
                }
                // 0 and 1 for the one and 1 and 0 for the other, all else at 0.
                x.matches(9).is(2);
                x.chosen(0).is(0);
                x.chosen(one).is(1);
            });
        }
        Calls.test("a TERM in common: SLOTS 2 and 3", x -> {
            x.text(7, 4);
            x.slot(0, 1);
            x.slot(0, 2);
            x.slot(0, 4);
            x.slot(0, 4);
            x.matches(9).is(2);
            x.chosen(2).is(0);
            x.chosen(3).is(1);
        });
        Calls.test("a TERM in common of four: four PLACES, and one less", x -> {
            x.text(1, 1, 1, 1);
            for (int slot = 0; slot < 4; slot++) {
                x.slot(slot, 1);
            }
            x.matches(0).is(1);
            // MOVED by 9 at most are all 24 orders of four PLACES: 3, 2, 1, 0 less 0, 1, 2, 3 is MOVED by 8.
            x.matches(9).is(24);
            x.put(3, 0);
            x.matches(9).is(0);
            x.least().is(-3);
        });
    }

    private static void moved() {
        Calls.test("MOVED by 0: one SLOT, whatever its PLACE and its OFFSET", x -> {
            x.put(29, 1);
            x.slot(9, 1);
            x.least().is(0);
            x.put(29, 0);
            x.put(0, 1);
            x.least().is(0);
        });
        Calls.test("for any whole number m: below 0", x -> {
            // 0 less 9 and 0 less 5, 0 less 7: from -9 to -5
            x.put(0, 7);
            x.slot(9, 1);
            x.slot(5, 2);
            x.slot(7, 4);
            x.least().is(4);
        });
        Calls.test("for any whole number m: not only one of a SLOT's: four SLOTS, two and two", x -> {
            x.put(0, 1);
            x.put(2, 2);
            x.put(5, 4);
            x.put(9, 8);
            for (int slot = 0; slot < 4; slot++) {
                x.slot(0, 1 << slot);
            }
            // 9 - 0 and 5 - 2
            x.least().is(12);
        });
        Calls.test("the least sum: the middle of three, in each order", x -> {
            int[][] orders = {{0, 1, 2}, {0, 2, 1}, {1, 0, 2}, {1, 2, 0}, {2, 0, 1}, {2, 1, 0}};
            x.put(1, 1);
            x.put(3, 2);
            x.put(8, 4);
            for (int[] order : orders) {
                for (int term : order) {
                    x.slot(0, 1 << term);
                }
                x.least().is(7);
                x.unslot().is(3);
            }
        });
        Calls.test("the least sum: four, in each order", x -> {
            x.put(1, 1);
            x.put(3, 2);
            x.put(8, 4);
            x.put(15, 8);
            for (int order = 0; order < 256; order++) {
                int a = order & 3;
                int b = order >> 2 & 3;
                int c = order >> 4 & 3;
                int d = order >> 6;
                if ((1 << a | 1 << b | 1 << c | 1 << d) == 15) {
                    x.slot(0, 1 << a);
                    x.slot(0, 1 << b);
                    x.slot(0, 1 << c);
                    x.slot(0, 1 << d);
                    // 15 - 1 and 8 - 3
                    x.least().is(19);
                    x.unslot().is(4);
                }
            }
        });
        Calls.test("MOVED by the most there is", x -> {
            x.put(0, 3);
            x.put(29, 12);
            x.slot(9, 1);
            x.slot(9, 2);
            x.slot(0, 4);
            x.slot(0, 8);
            x.least().is(76);
            x.ties().is(1);
            x.chosen(0).is(0);
            x.chosen(3).is(29);
            x.matches(9).is(0);
        });
    }

    /** SLOT 0 at 0; SLOT 1 at 1 and further by 0, 1, .., 28: one CHOICE MOVED by each of these. */
    private static Calls oneOfEach(Calls x) {
        x.put(0, 1);
        x.fill(1, 29, 2);
        x.slot(0, 1);
        x.slot(1, 2);
        return x;
    }

    private static void matches() {
        for (int slop : NO_SLOPS) {
            Calls.test("12: -2: it is not 0 .. 9", x -> oneOfEach(x).matches(slop).is(-2));
            Calls.test("12: -2: it is not 0 .. 9, without SLOTS", x -> x.matches(slop).is(-2));
        }
        for (int slop = 0; slop <= 9; slop++) {
            int one = slop;
            Calls.test("12: MOVED by at most so much: " + slop, x -> oneOfEach(x).matches(one).is(one + 1));
        }
        Calls.test("12: MOVED by at most so much: 9 and 10", x -> {
            x.put(0, 1);
            x.put(10, 2);
            x.slot(0, 1);
            x.slot(1, 2);
            x.matches(8).is(0);
            x.matches(9).is(1);
            x.put(10, 0);
            x.put(11, 2);
            x.matches(9).is(0);
            x.least().is(10);
        });
        Calls.test("12: how many CHOICES: the most there are", x -> {
            x.fill(0, 29, 15);
            for (int slot = 0; slot < 4; slot++) {
                x.slot(0, 1 << slot);
            }
            long[] sums = ofAFullText();
            for (int slop = 0; slop <= 9; slop++) {
                x.matches(slop).is(sums[slop]);
            }
        });
    }

    /** How many choices of four places out of 30 are moved by at most 0, 1, .. 9: by trying all. */
    private static long[] ofAFullText() {
        long[] sums = new long[10];
        for (int i = 0; i < 30 * 30 * 30 * 30; i++) {
            int[] places = {i % 30, i / 30 % 30, i / 900 % 30, i / 27000};
            java.util.Arrays.sort(places);
            int moved = places[3] - places[0] + places[2] - places[1];
            for (int slop = moved; slop <= 9; slop++) {
                sums[slop]++;
            }
        }
        return sums;
    }

    private static void weight() {
        for (int slop : NO_SLOPS) {
            Calls.test("13: -2: it is not 0 .. 9", x -> oneOfEach(x).weight(slop).is(-2));
            Calls.test("13: -2: it is not 0 .. 9, without SLOTS", x -> x.weight(slop).is(-2));
        }
        long[] weights = {2520, 1260, 840, 630, 504, 420, 360, 315, 280, 252};
        for (int slop = 0; slop <= 9; slop++) {
            int one = slop;
            Calls.test("13: the WEIGHT of a CHOICE MOVED by s is 2520 by s + 1: s = " + slop, x -> {
                x.put(0, 1);
                x.put(one + 1, 2);
                x.slot(0, 1);
                x.slot(1, 2);
                x.weight(one).is(weights[one]);
                x.weight(9).is(weights[one]);
                x.weight(Math.max(0, one - 1)).is(one == 0 ? 2520 : 0);
            });
        }
        Calls.test("13: the sum of their WEIGHTS: one of each", x -> {
            oneOfEach(x);
            long sum = 0;
            for (int slop = 0; slop <= 9; slop++) {
                sum += weights[slop];
                x.weight(slop).is(sum);
            }
        });
        Calls.test("13: the sum of their WEIGHTS: MOVED by 10 counts for nothing", x -> {
            x.put(0, 1);
            x.put(11, 2);
            x.slot(0, 1);
            x.slot(1, 2);
            x.least().is(10);
            x.weight(9).is(0);
        });
        Calls.test("13: the sum of their WEIGHTS: the most there are", x -> {
            x.fill(0, 29, 15);
            for (int slot = 0; slot < 4; slot++) {
                x.slot(0, 1 << slot);
            }
            long[] sums = ofAFullText();
            long sum = 0;
            for (int slop = 0; slop <= 9; slop++) {
                sum += (sums[slop] - (slop == 0 ? 0 : sums[slop - 1])) * weights[slop];
                x.weight(slop).is(sum);
            }
        });
    }

    private static void least() {
        Calls.test("14: MOVED least: 0", x -> oneOfEach(x).least().is(0));
        Calls.test("14: MOVED least: 1, where 0 is not", x -> {
            oneOfEach(x).put(1, 0);
            x.least().is(1);
        });
        Calls.test("14: MOVED least: the last CHOICE of all", x -> {
            x.put(0, 1);
            x.put(28, 1);
            x.put(29, 2);
            x.slot(0, 1);
            x.slot(1, 2);
            x.least().is(0);
            x.chosen(0).is(28);
        });
        Calls.test("14: MOVED least: more than any slop", x -> {
            x.put(0, 2);
            x.put(29, 1);
            x.slot(0, 1);
            x.slot(9, 2);
            // 29 and 0 less 9
            x.least().is(38);
            x.ties().is(1);
        });
    }

    private static void chosen() {
        for (int slot : NO_SLOTS_OF_TWO) {
            Calls.test("15: -1", x -> oneOfEach(x).chosen(slot).is(-1));
            Calls.test("15: -1 without SLOTS", x -> x.chosen(slot).is(-1));
            Calls.test("15: the first that fits: -1 ahead of -3", x -> {
                x.slot(0, 1);
                x.slot(0, 1);
                x.chosen(slot).is(-1);
                x.chosen(1).is(-3);
            });
        }
        Calls.test("15: -1: behind the last of four", x -> {
            x.put(3, 15);
            fourSlots(x).chosen(3).is(3);
            x.chosen(4).is(-1);
        });
        Calls.test("15: the PLACE: the first and the last", x -> {
            x.put(0, 1);
            x.put(29, 2);
            x.slot(0, 1);
            x.slot(0, 2);
            x.chosen(0).is(0);
            x.chosen(1).is(29);
        });
        Calls.test("15: the FIRST: the least PLACE for SLOT 0", x -> {
            // 5 with 7 and 9 with 7
            x.put(5, 1);
            x.put(7, 2);
            x.put(9, 1);
            x.slot(0, 1);
            x.slot(0, 2);
            x.ties().is(2);
            x.chosen(0).is(5);
            x.chosen(1).is(7);
        });
        Calls.test("15: the FIRST: SLOT 0 ahead of SLOT 1", x -> {
            x.put(4, 2);
            x.put(5, 1);
            x.put(2, 2);
            x.put(3, 1);
            x.slot(0, 1);
            x.slot(0, 2);
            // 3 with 2, 3 with 4, 5 with 4
            x.ties().is(3);
            x.chosen(0).is(3);
            x.chosen(1).is(2);
        });
        Calls.test("15: the FIRST: then for SLOT 1, and so on: SLOT 3", x -> {
            x.put(5, 7);
            x.put(4, 8);
            x.put(6, 8);
            for (int slot = 0; slot < 4; slot++) {
                x.slot(0, 1 << slot);
            }
            x.least().is(1);
            x.ties().is(2);
            x.chosen(2).is(5);
            x.chosen(3).is(4);
        });
        Calls.test("15: the FIRST of these: not one that is MOVED more and comes before", x -> {
            x.put(0, 1);
            x.put(2, 2);
            x.put(10, 1);
            x.put(11, 2);
            x.slot(0, 1);
            x.slot(1, 2);
            x.chosen(0).is(10);
            x.chosen(1).is(11);
        });
    }

    private static void ties() {
        Calls.test("16: how many CHOICES: one", x -> oneOfEach(x).ties().is(1));
        Calls.test("16: how many CHOICES: one of each PLACE", x -> {
            x.fill(0, 29, 1).slot(3, 1).is(0);
            x.ties().is(30);
        });
        Calls.test("16: MOVED so little: not those MOVED more", x -> {
            // A at 3, B at 1, 4, 5: less 1: 0, 3, 4
            x.put(3, 1);
            x.put(1, 2);
            x.put(4, 2);
            x.put(5, 2);
            x.slot(0, 1);
            x.slot(1, 2);
            x.ties().is(1);
            x.matches(1).is(2);
        });
        Calls.test("16: MOVED so little: beyond any slop", x -> {
            // 14 from 0 and 15 from 29; then, with one at 28, 14 from that as well
            x.put(0, 1);
            x.put(14, 2);
            x.put(29, 1);
            x.slot(0, 1);
            x.slot(0, 2);
            x.least().is(14);
            x.ties().is(1);
            x.put(28, 1);
            x.least().is(14);
            x.ties().is(2);
        });
        Calls.test("16: no refusal: without a CHOICE there are none", x -> {
            x.ties().is(0);
            x.slot(0, 1);
            x.ties().is(0);
        });
    }

    private static void shortest() {
        for (int end : NO_ENDS) {
            Calls.test("17: -2: begin (end = 0) or end (1)", x -> oneOfEach(x).shortest(end).is(-2));
            Calls.test("17: the first that fits: -2 ahead of -3, without SLOTS", x -> x.shortest(end).is(-2));
            Calls.test("17: the first that fits: -2 ahead of -3, without a CHOICE", x -> {
                x.slot(0, 1);
                x.shortest(end).is(-2);
            });
        }
        Calls.test("17: begin and end: one PLACE, the first", x -> {
            x.put(0, 3);
            x.slot(9, 1);
            x.slot(0, 2);
            x.shortest(0).is(0);
            x.shortest(1).is(0);
        });
        Calls.test("17: begin and end: one PLACE, the last", x -> {
            x.put(29, 3);
            x.slot(0, 1);
            x.slot(9, 2);
            x.shortest(0).is(29);
            x.shortest(1).is(29);
        });
        Calls.test("17: begin and end: all PLACES", x -> {
            x.put(29, 1);
            x.put(0, 2);
            x.slot(0, 1);
            x.slot(0, 2);
            x.shortest(0).is(0);
            x.shortest(1).is(29);
        });
        Calls.test("17: of these the first", x -> {
            // B A at 2 .. 3, A B at 5 .. 6 and, found last by rising PLACES, A at 20 with B at 19
            x.put(2, 2);
            x.put(3, 1);
            x.put(5, 1);
            x.put(6, 2);
            x.put(19, 2);
            x.put(20, 1);
            x.slot(0, 1);
            x.slot(0, 2);
            x.shortest(0).is(2);
            x.shortest(1).is(3);
        });
        Calls.test("17: of these the first, by its begin, not by the order of the SLOTS", x -> {
            // Both A with the B before them are 1 .. 3, with the B behind them 2 .. 4.
            x.put(1, 2);
            x.put(2, 1);
            x.put(3, 1);
            x.put(4, 2);
            x.slot(0, 1);
            x.slot(0, 1);
            x.slot(0, 2);
            x.shortest(0).is(1);
            x.shortest(1).is(3);
            x.put(1, 0);
            x.shortest(0).is(2);
            x.shortest(1).is(4);
        });
        Calls.test("17: a shorter one that begins later", x -> {
            x.put(0, 1);
            x.put(2, 2);
            x.put(28, 2);
            x.put(29, 1);
            x.slot(0, 1);
            x.slot(0, 2);
            x.shortest(0).is(28);
            x.shortest(1).is(29);
        });
        Calls.test("17: a longer one that begins before", x -> {
            // A B at 5 .. 6; the B at 0 with the A at 9, which comes last, is far longer.
            x.put(0, 2);
            x.put(5, 1);
            x.put(6, 2);
            x.put(9, 1);
            x.slot(0, 1);
            x.slot(0, 2);
            x.shortest(0).is(5);
            x.shortest(1).is(6);
        });
        Calls.test("17: a long one where a short one at the end of the TEXT was", x -> {
            x.put(28, 1);
            x.put(29, 2);
            x.slot(0, 1);
            x.slot(0, 2);
            x.shortest(0).is(28);
            x.put(28, 0);
            x.put(0, 1);
            x.shortest(0).is(0);
            x.shortest(1).is(29);
        });
        Calls.test("17: some CHOICE: different PLACES where a TERM is in common", x -> {
            x.text(3, 3);
            x.slot(0, 1);
            x.slot(0, 1);
            x.shortest(0).is(0);
            x.shortest(1).is(1);
        });
        Calls.test("17: some CHOICE: however much it is MOVED", x -> {
            x.put(3, 1);
            x.put(4, 2);
            x.put(14, 2);
            x.slot(0, 1);
            x.slot(9, 2);
            // 4 less 9 is 8 from 3, 14 less 9 is 2 from 3.
            x.chosen(1).is(14);
            x.shortest(0).is(3);
            x.shortest(1).is(4);
        });
    }

    private static void withoutSlots() {
        Calls.test("without SLOTS there is no CHOICE: matches", x -> x.text(1, 2).matches(9).is(0));
        Calls.test("without SLOTS there is no CHOICE: weight", x -> x.text(1, 2).weight(9).is(0));
        Calls.test("without SLOTS there is no CHOICE: least", x -> x.text(1, 2).least().is(-3));
        Calls.test("without SLOTS there is no CHOICE: chosen", x -> x.text(1, 2).chosen(0).is(-1));
        Calls.test("without SLOTS there is no CHOICE: ties", x -> x.text(1, 2).ties().is(0));
        Calls.test("without SLOTS there is no CHOICE: shortest", x -> {
            x.text(1, 2).shortest(0).is(-3);
            x.shortest(1).is(-3);
        });
    }

    private static Calls noPlaceForTheSecond(Calls x) {
        x.text(1, 1);
        x.slot(0, 1);
        x.slot(0, 2);
        return x;
    }

    private static void withoutChoice() {
        Calls.test("no CHOICE: matches", x -> noPlaceForTheSecond(x).matches(9).is(0));
        Calls.test("no CHOICE: weight", x -> noPlaceForTheSecond(x).weight(9).is(0));
        Calls.test("no CHOICE: 14: -3", x -> noPlaceForTheSecond(x).least().is(-3));
        Calls.test("no CHOICE: 15: -3, of each SLOT", x -> {
            noPlaceForTheSecond(x).chosen(0).is(-3);
            x.chosen(1).is(-3);
        });
        Calls.test("no CHOICE: ties", x -> noPlaceForTheSecond(x).ties().is(0));
        Calls.test("no CHOICE: 17: -3, begin and end", x -> {
            noPlaceForTheSecond(x).shortest(0).is(-3);
            x.shortest(1).is(-3);
        });
        Calls.test("no CHOICE: the empty TEXT", x -> {
            fourSlots(x).least().is(-3);
            x.chosen(0).is(-3);
            x.shortest(0).is(-3);
            x.matches(9).is(0);
            x.weight(9).is(0);
            x.ties().is(0);
        });
        Calls.test("no CHOICE: a SLOT with the empty SET beside others", x -> {
            x.fill(0, 29, 1023).slot(0, 1023).is(0);
            x.least().is(0);
            x.slot(0, 0).is(1);
            x.least().is(-3);
            x.matches(9).is(0);
            x.shortest(0).is(-3);
        });
    }

    private static void theTextAsItIs() {
        Calls.test("a CHOICE goes by the TEXT as it is: none, one, none", x -> {
            x.slot(0, 1);
            x.least().is(-3);
            x.put(7, 1);
            x.least().is(0);
            x.shortest(0).is(7);
            x.put(7, 2);
            x.least().is(-3);
            x.shortest(0).is(-3);
            x.put(9, 1);
            x.chosen(0).is(9);
            x.clear();
            x.chosen(0).is(-3);
            x.ties().is(0);
        });
        Calls.test("a CHOICE goes by the SLOTS as they are", x -> {
            x.text(1, 0, 2);
            x.slot(0, 1);
            x.shortest(1).is(0);
            x.slot(1, 2);
            x.shortest(1).is(2);
            x.least().is(1);
            x.unslot();
            x.slot(2, 2);
            x.least().is(0);
            x.shortest(0).is(2);
        });
        Calls.test("each phrase call comes first behind a change", x -> {
            oneOfEach(x).matches(0).is(1);
            x.put(1, 0);
            x.matches(0).is(0);
            x.put(1, 2);
            x.weight(0).is(2520);
            x.put(1, 0);
            x.weight(0).is(0);
            x.least().is(1);
            x.put(1, 2);
            x.least().is(0);
            x.put(1, 0);
            x.chosen(1).is(2);
            x.put(1, 2);
            x.chosen(1).is(1);
            x.put(29, 1);
            // 29 with PLACES 2 .. 28 less 1 is MOVED by 2 or more.
            x.ties().is(1);
            x.put(1, 0);
            // B A at 28 .. 29 is shorter than A B at 0 .. 2.
            x.shortest(1).is(29);
            x.put(1, 2);
            x.shortest(1).is(1);
        });
    }
}
