import java.util.ArrayList;
import java.util.List;
import java.util.Random;

/**
 * Runs of up to 512 drawn calls (the seeds are fixed), each answer compared with that of a model
 * that follows the document's words without regard to speed: sets of intervals of which those that
 * hold another one are struck out, and all choices, one by one.
 */
public final class ModelTest {
    private static final int RUNS = 400;
    private static final int CALLS = 512;
    private static int wrong = 0;

    public static void main(String[] args) {
        int[] kindsOfAnswers = new int[4];
        for (int seed = 1; seed <= RUNS && wrong < 20; seed++) {
            new Run(seed, kindsOfAnswers).play();
        }
        for (int i = 0; i < kindsOfAnswers.length; i++) {
            if (kindsOfAnswers[i] < 1000) {
                wrong++;
                System.out.println("the runs hardly ever answer " + (-1 - i) + ": they test too little");
            }
        }
        System.out.println(wrong == 0 ? "all answers are as due" : wrong + " answers are not as due");
        if (wrong != 0) {
            System.exit(1);
        }
    }

    private record Interval(int from, int to) {
        boolean holds(Interval o) {
            return from <= o.from && o.to <= to;
        }

        int between(Interval o) {
            return Math.max(o.from - to, from - o.to) - 1;
        }
    }

    private record Ask(int kind, int a, int b, int n) {
    }

    private record Choice(int[] places, int moved) {
    }

    private static final class Model {
        final int[] text = new int[30];
        final List<Ask> asks = new ArrayList<>();
        final List<int[]> slots = new ArrayList<>();

        int put(int place, int set) {
            if (place < 0 || place > 29) return -1;
            if (set < 0 || set > 1023) return -2;
            int before = text[place];
            text[place] = set;
            return before;
        }

        int clear() {
            int filled = 0;
            for (int i = 0; i < 30; i++) {
                if (text[i] > 0) filled++;
                text[i] = 0;
            }
            return filled;
        }

        int ask(int kind, int a, int b, int n) {
            if (kind < 0 || kind > 10) return -2;
            if (kind == 0 && (n < 0 || n > 9)) return -2;
            if (List.of(2, 3, 4, 8, 9, 10).contains(kind) && (n < 0 || n > 30)) return -2;
            if (kind >= 1 && (a < 0 || a >= asks.size())) return -1;
            if (kind >= 1 && kind <= 8 && (b < 0 || b >= asks.size())) return -1;
            if (asks.size() == 30) return -4;
            asks.add(new Ask(kind, a, b, n));
            return asks.size() - 1;
        }

        int forget() {
            int before = asks.size();
            asks.clear();
            return before;
        }

        boolean isAsk(int ask) {
            return ask >= 0 && ask < asks.size();
        }

        List<List<Interval>> rows(int upTo) {
            List<List<Interval>> rows = new ArrayList<>();
            for (int i = 0; i <= upTo; i++) rows.add(least(told(asks.get(i), rows)));
            return rows;
        }

        static List<Interval> least(List<Interval> set) {
            List<Interval> row = new ArrayList<>();
            for (int from = 0; from < 30; from++) {
                for (int to = from; to < 30; to++) {
                    Interval one = new Interval(from, to);
                    if (!set.contains(one)) continue;
                    boolean holdsOther = false;
                    for (Interval o : set) holdsOther |= !o.equals(one) && one.holds(o);
                    if (!holdsOther) row.add(one);
                }
            }
            return row;
        }

        List<Interval> told(Ask ask, List<List<Interval>> rows) {
            List<Interval> set = new ArrayList<>();
            if (ask.kind == 0) {
                for (int i = 0; i < 30; i++) if ((text[i] >> ask.n & 1) == 1) set.add(new Interval(i, i));
                return set;
            }
            List<Interval> as = rows.get(ask.a);
            List<Interval> bs = ask.kind <= 8 ? rows.get(ask.b) : List.of();
            switch (ask.kind) {
                case 1 -> {
                    set.addAll(as);
                    set.addAll(bs);
                }
                case 2 -> behind(as, bs, ask.n, set);
                case 3 -> {
                    behind(as, bs, ask.n, set);
                    behind(bs, as, ask.n, set);
                }
                case 4 -> {
                    for (Interval x : as) for (Interval y : bs) {
                        Interval both = new Interval(Math.min(x.from, y.from), Math.max(x.to, y.to));
                        if (both.to - both.from < ask.n) set.add(both);
                    }
                }
                case 5 -> {
                    for (Interval x : as) if (bs.stream().anyMatch(y -> x.holds(y))) set.add(x);
                }
                case 6 -> {
                    for (Interval x : as) if (bs.stream().anyMatch(y -> y.holds(x))) set.add(x);
                }
                case 7 -> {
                    for (Interval x : as) if (bs.stream().anyMatch(y -> meet(x, y))) set.add(x);
                }
                case 8 -> {
                    for (Interval x : as) {
                        if (bs.stream().noneMatch(y -> meet(x, y) || x.between(y) <= ask.n)) set.add(x);
                    }
                }
                case 9 -> {
                    for (Interval x : as) if (x.to < ask.n) set.add(x);
                }
                default -> {
                    for (Interval x : as) set.add(new Interval(x.from < ask.n ? 0 : x.from - ask.n, x.to));
                }
            }
            return set;
        }

        static void behind(List<Interval> as, List<Interval> bs, int n, List<Interval> set) {
            for (Interval x : as) for (Interval y : bs) {
                if (y.from > x.to && y.from - x.to - 1 <= n) set.add(new Interval(x.from, y.to));
            }
        }

        static boolean meet(Interval x, Interval y) {
            for (int i = x.from; i <= x.to; i++) if (y.from <= i && i <= y.to) return true;
            return false;
        }

        List<Interval> row(int ask) {
            return rows(ask).get(ask);
        }

        int covered(int ask) {
            int covered = 0;
            List<Interval> row = row(ask);
            for (int i = 0; i < 30; i++) {
                Interval place = new Interval(i, i);
                if (row.stream().anyMatch(x -> x.holds(place))) covered++;
            }
            return covered;
        }

        int slot(int offset, int set) {
            if (offset < 0 || offset > 9 || set < 0 || set > 1023) return -2;
            if (slots.size() == 4) return -4;
            slots.add(new int[] {offset, set});
            return slots.size() - 1;
        }

        int unslot() {
            int before = slots.size();
            slots.clear();
            return before;
        }

        List<Choice> choices() {
            List<Choice> all = new ArrayList<>();
            if (!slots.isEmpty()) choose(new int[slots.size()], 0, all);
            return all;
        }

        void choose(int[] places, int slot, List<Choice> all) {
            if (slot == places.length) {
                all.add(new Choice(places.clone(), moved(places)));
                return;
            }
            for (places[slot] = 0; places[slot] < 30; places[slot]++) {
                if ((text[places[slot]] & slots.get(slot)[1]) == 0) continue;
                boolean free = true;
                for (int s = 0; s < slot; s++) {
                    free &= places[s] != places[slot] || (slots.get(s)[1] & slots.get(slot)[1]) == 0;
                }
                if (free) choose(places, slot + 1, all);
            }
        }

        int moved(int[] places) {
            int least = Integer.MAX_VALUE;
            for (int m = -9; m <= 29; m++) {
                int sum = 0;
                for (int s = 0; s < places.length; s++) sum += Math.abs(places[s] - slots.get(s)[0] - m);
                least = Math.min(least, sum);
            }
            return least;
        }

        Choice first(List<Choice> all) {
            Choice first = null;
            for (Choice c : all) if (first == null || c.moved < first.moved) first = c;
            return first;
        }

        Interval shortest(List<Choice> all) {
            for (int width = 0; width < 30; width++) {
                for (int from = 0; from + width < 30; from++) {
                    Interval one = new Interval(from, from + width);
                    for (Choice c : all) if (inside(one, c)) return one;
                }
            }
            return null;
        }

        static boolean inside(Interval one, Choice c) {
            for (int place : c.places) if (place < one.from || place > one.to) return false;
            return true;
        }
    }

    private static final class Run {
        private final int seed;
        private final Random random;
        private final int[] kindsOfAnswers;
        private final PhraseMoves real = new PhraseMoves();
        private final Model model = new Model();
        private final StringBuilder calls = new StringBuilder();
        private final int terms;
        private final int fill;
        private List<Choice> choices;

        Run(int seed, int[] kindsOfAnswers) {
            this.seed = seed;
            this.random = new Random(seed);
            this.kindsOfAnswers = kindsOfAnswers;
            this.terms = 1 + random.nextInt(10);
            this.fill = 1 + random.nextInt(seed % 50 == 0 ? 30 : 12);
        }

        void play() {
            for (int i = 0; i < fill; i++) call(0);
            for (int i = fill; i < CALLS && wrong < 20; i++) call(random.nextInt(100));
        }

        private void call(int draw) {
            if (draw < 8) {
                int place = wrongOr(random.nextInt(4) == 0 ? 29 * random.nextInt(2) : random.nextInt(30));
                int set = wrongOr(drawSet());
                due("put(" + place + ", " + set + ")", real.put(place, set), model.put(place, set));
                choices = null;
            } else if (draw < 9 && random.nextInt(4) == 0) {
                due("clear()", real.clear(), model.clear());
                choices = null;
            } else if (draw < 30) {
                askCall();
            } else if (draw < 31) {
                due("forget()", real.forget(), model.forget());
            } else if (draw < 60) {
                rowCall(draw % 4);
            } else if (draw < 64) {
                int offset = wrongOr(random.nextInt(2) == 0 ? model.slots.size() : random.nextInt(10));
                int set = wrongOr(drawSet());
                due("slot(" + offset + ", " + set + ")", real.slot(offset, set), model.slot(offset, set));
                choices = null;
            } else if (draw < 65) {
                due("unslot()", real.unslot(), model.unslot());
                choices = null;
            } else {
                phraseCall(draw % 6);
            }
        }

        private void askCall() {
            int kind = wrongOr(model.asks.size() < 3 ? 0 : random.nextInt(11));
            int a = wrongOr(random.nextInt(Math.max(1, model.asks.size())));
            int b = wrongOr(random.nextInt(Math.max(1, model.asks.size())));
            int n = wrongOr(kind == 0 ? random.nextInt(terms) : random.nextInt(random.nextInt(3) == 0 ? 31 : 8));
            String call = "ask(" + kind + ", " + a + ", " + b + ", " + n + ")";
            due(call, real.ask(kind, a, b, n), model.ask(kind, a, b, n));
        }

        private void rowCall(int which) {
            int ask = wrongOr(random.nextInt(Math.max(1, model.asks.size())));
            int k = wrongOr(random.nextInt(8));
            boolean there = model.isAsk(ask);
            List<Interval> row = there && which < 3 ? model.row(ask) : List.of();
            boolean inRow = k >= 0 && k < row.size();
            if (which == 0) {
                due("count(" + ask + ")", real.count(ask), there ? row.size() : -1);
            } else if (which == 1) {
                due("begin(" + ask + ", " + k + ")", real.begin(ask, k), inRow ? row.get(k).from : -1);
            } else if (which == 2) {
                due("end(" + ask + ", " + k + ")", real.end(ask, k), inRow ? row.get(k).to : -1);
            } else {
                due("covered(" + ask + ")", real.covered(ask), there ? model.covered(ask) : -1);
            }
        }

        private void phraseCall(int which) {
            if (choices == null) choices = model.choices();
            Choice first = model.first(choices);
            int slop = wrongOr(random.nextInt(10));
            boolean slopFits = slop >= 0 && slop <= 9;
            if (which == 0) {
                long n = choices.stream().filter(c -> c.moved <= slop).count();
                due("matches(" + slop + ")", real.matches(slop), slopFits ? n : -2);
            } else if (which == 1) {
                long sum = choices.stream().filter(c -> c.moved <= slop).mapToLong(c -> 2520 / (c.moved + 1)).sum();
                due("weight(" + slop + ")", real.weight(slop), slopFits ? sum : -2);
            } else if (which == 2) {
                due("least()", real.least(), first == null ? -3 : first.moved);
            } else if (which == 3) {
                int slot = wrongOr(random.nextInt(4));
                boolean there = slot >= 0 && slot < model.slots.size();
                due("chosen(" + slot + ")", real.chosen(slot), !there ? -1 : first == null ? -3 : first.places[slot]);
            } else if (which == 4) {
                long n = choices.stream().filter(c -> c.moved == first.moved).count();
                due("ties()", real.ties(), n);
            } else {
                int end = wrongOr(random.nextInt(2));
                Interval one = model.shortest(choices);
                int want = end != 0 && end != 1 ? -2 : one == null ? -3 : end == 0 ? one.from : one.to;
                due("shortest(" + end + ")", real.shortest(end), want);
            }
        }

        private int drawSet() {
            int set = 1 << random.nextInt(terms);
            while (random.nextInt(3) == 0) set |= 1 << random.nextInt(terms);
            return random.nextInt(12) == 0 ? 0 : set;
        }

        private int wrongOr(int value) {
            if (random.nextInt(40) != 0) return value;
            int[] bad = {-1, -2, 4, 10, 11, 29, 30, 31, 1023, 1024, Integer.MIN_VALUE, Integer.MAX_VALUE,
                    Integer.MIN_VALUE + 1, random.nextInt()};
            return bad[random.nextInt(bad.length)];
        }

        private void due(String call, long got, long want) {
            calls.append(call).append(" -> ").append(want).append('\n');
            if (want < 0) kindsOfAnswers[(int) (-1 - want)]++;
            if (got != want) {
                wrong++;
                System.out.println("run " + seed + ": " + call + " answered " + got + ", due is " + want);
                if (wrong == 1) System.out.println("the calls of that run:\n" + calls);
            }
        }
    }
}
