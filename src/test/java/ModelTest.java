import java.util.ArrayList;
import java.util.IdentityHashMap;
import java.util.List;
import java.util.Map;
import java.util.NoSuchElementException;

/** Long runs of mixed calls, each answer beside that of a model that holds Java objects, no cells. */
public final class ModelTest {
    private static final Report REPORT = new Report();
    private static final int RUNS = 3000;
    private static final int CALLS = 512;

    private static final class Thing {
        final Thing[] fields;
        final int[] words;
        int number = -1;

        Thing(int fields, int words) {
            this.fields = new Thing[fields];
            this.words = new int[words];
        }

        int size() {
            return 3 + fields.length + words.length;
        }
    }

    private static final class Model {
        List<Thing> row = new ArrayList<>();
        Thing[] roots = new Thing[16];
        int cells = 2048;
        int slides = 0;
        int went = 0;
        int given = 0;

        int taken() {
            int sum = 0;
            for (Thing t : row) {
                sum += t.size();
            }
            return sum;
        }

        int addressOf(Thing wanted) {
            int at = 1;
            for (Thing t : row) {
                if (t == wanted) {
                    return at;
                }
                at += t.size();
            }
            return 0;
        }

        Thing at(int a) {
            int at = 1;
            for (Thing t : row) {
                if (at == a) {
                    return t;
                }
                at += t.size();
            }
            throw new NoSuchElementException();
        }

        Thing atOrNothing(int a) {
            return a == 0 ? null : at(a);
        }

        void within(int index, int length) {
            if (index < 0 || index >= length) {
                throw new NoSuchElementException();
            }
        }

        void reach(Thing t, Map<Thing, Thing> seen) {
            if (t == null || seen.put(t, t) != null) {
                return;
            }
            for (Thing f : t.fields) {
                reach(f, seen);
            }
        }

        Map<Thing, Thing> reached() {
            Map<Thing, Thing> seen = new IdentityHashMap<>();
            for (Thing r : roots) {
                reach(r, seen);
            }
            return seen;
        }

        int space(int n) {
            if (n < 16 || n > 16384) {
                throw new IllegalArgumentException();
            }
            int before = cells;
            row = new ArrayList<>();
            roots = new Thing[16];
            cells = n;
            slides = 0;
            went = 0;
            given = 0;
            return before;
        }

        int make(int fields, int words) {
            if (fields < 0 || fields > 2000 || words < 0 || words > 2000) {
                throw new IllegalArgumentException();
            }
            int taken = taken();
            if (taken + 3 + fields + words > cells) {
                return 0;
            }
            row.add(new Thing(fields, words));
            return taken + 1;
        }

        int set(int a, int field, int b) {
            Thing t = at(a);
            within(field, t.fields.length);
            Thing value = atOrNothing(b);
            int before = addressOf(t.fields[field]);
            t.fields[field] = value;
            return before;
        }

        int get(int a, int field) {
            Thing t = at(a);
            within(field, t.fields.length);
            return addressOf(t.fields[field]);
        }

        int put(int a, int k, int v) {
            Thing t = at(a);
            within(k, t.words.length);
            int before = t.words[k];
            t.words[k] = v;
            return before;
        }

        int word(int a, int k) {
            Thing t = at(a);
            within(k, t.words.length);
            return t.words[k];
        }

        int root(int root, int a) {
            within(root, 16);
            Thing value = atOrNothing(a);
            int before = addressOf(roots[root]);
            roots[root] = value;
            return before;
        }

        int rooted(int root) {
            within(root, 16);
            return addressOf(roots[root]);
        }

        int slide() {
            Map<Thing, Thing> seen = reached();
            int before = row.size();
            row.removeIf(t -> !seen.containsKey(t));
            went += before - row.size();
            slides++;
            return taken();
        }

        int number(int a) {
            Thing t = at(a);
            if (t.number < 0) {
                t.number = given++;
            }
            return t.number;
        }

        int find(int number) {
            for (Thing t : row) {
                if (number >= 0 && t.number == number) {
                    return addressOf(t);
                }
            }
            return 0;
        }

        int next(int a) {
            int i = a == 0 ? 0 : row.indexOf(at(a)) + 1;
            return i < row.size() ? addressOf(row.get(i)) : 0;
        }

        int count(int what) {
            int[] counts = {row.size(), taken(), reached().size(), slides, went, given, cells};
            if (what < 0 || what >= counts.length) {
                throw new IllegalArgumentException();
            }
            return counts[what];
        }
    }

    /** The same numbers in every run of the tests. */
    private static final class Dice {
        private long state;

        Dice(long seed) {
            state = seed * 0x9E3779B97F4A7C15L + 1;
        }

        int below(int n) {
            state = state * 6364136223846793005L + 1442695040888963407L;
            return (int) Long.remainderUnsigned(state >>> 33, n);
        }

        boolean oneIn(int n) {
            return below(n) == 0;
        }

        int odd() {
            int[] odd = {-1, 0, 1, 2, 15, 16, 2000, 2001, 2048, 16384, 16385, Integer.MIN_VALUE, Integer.MAX_VALUE};
            return odd[below(odd.length)];
        }
    }

    private static final class Run {
        final SlideRow x = new SlideRow();
        final Model m = new Model();
        final Dice dice;
        final String name;
        final int parts;

        Run(int seed) {
            dice = new Dice(seed);
            name = "run " + seed;
            int[] choices = {1, 3, 5, 60, 2001};
            parts = choices[dice.below(choices.length)];
        }

        void both(String call, Report.Call real, Report.Call model) {
            REPORT.due(name + ": " + call, Report.answer(real), Report.answer(model));
        }

        int address() {
            if (dice.oneIn(25)) {
                return dice.odd();
            }
            if (m.row.isEmpty() || dice.oneIn(12)) {
                return dice.below(m.taken() + 3);
            }
            return m.addressOf(m.row.get(dice.below(m.row.size())));
        }

        int index(int length) {
            if (dice.oneIn(25)) {
                return dice.odd();
            }
            return dice.below(length + (dice.oneIn(8) ? 2 : 0) + (length == 0 ? 1 : 0));
        }

        int fieldIndex(int a) {
            return index(isThing(a) ? m.at(a).fields.length : 1);
        }

        int wordIndex(int a) {
            return index(isThing(a) ? m.at(a).words.length : 1);
        }

        boolean isThing(int a) {
            return !Report.answer(() -> m.at(a).size()).startsWith("throws");
        }

        void callSpace() {
            int[] sizes = {16, 17, 40, 200, 2048, 2049, 5000, 16384, 15, 16385, dice.odd()};
            int n = sizes[dice.below(sizes.length)];
            both("space(" + n + ")", () -> x.space(n), () -> m.space(n));
        }

        void callMake() {
            int f = dice.oneIn(40) ? dice.odd() : dice.below(parts);
            int w = dice.oneIn(40) ? dice.odd() : dice.below(parts);
            both("make(" + f + ", " + w + ")", () -> x.make(f, w), () -> m.make(f, w));
        }

        void callSet() {
            int a = address();
            int f = fieldIndex(a);
            int b = dice.oneIn(6) ? 0 : address();
            both("set(" + a + ", " + f + ", " + b + ")", () -> x.set(a, f, b), () -> m.set(a, f, b));
        }

        void callPut() {
            int a = address();
            int k = wordIndex(a);
            int v = dice.oneIn(3) ? dice.odd() : dice.below(100);
            both("put(" + a + ", " + k + ", " + v + ")", () -> x.put(a, k, v), () -> m.put(a, k, v));
        }

        void callRoot() {
            int r = dice.oneIn(10) ? dice.odd() : dice.below(dice.oneIn(3) ? 16 : 2);
            int a = dice.oneIn(3) ? 0 : address();
            both("root(" + r + ", " + a + ")", () -> x.root(r, a), () -> m.root(r, a));
        }

        void callReader(int which) {
            int a = which == 3 && dice.oneIn(4) ? 0 : address();
            int f = fieldIndex(a);
            int k = wordIndex(a);
            int r = dice.oneIn(10) ? dice.odd() : dice.below(17);
            switch (which) {
                case 0 -> both("get(" + a + ", " + f + ")", () -> x.get(a, f), () -> m.get(a, f));
                case 1 -> both("word(" + a + ", " + k + ")", () -> x.word(a, k), () -> m.word(a, k));
                case 2 -> both("rooted(" + r + ")", () -> x.rooted(r), () -> m.rooted(r));
                default -> both("next(" + a + ")", () -> x.next(a), () -> m.next(a));
            }
        }

        void callOther(int which) {
            int a = address();
            int n = dice.oneIn(10) ? dice.odd() : dice.below(m.given + 2);
            int what = dice.oneIn(20) ? dice.odd() : dice.below(8);
            switch (which) {
                case 0 -> both("slide()", x::slide, m::slide);
                case 1 -> both("number(" + a + ")", () -> x.number(a), () -> m.number(a));
                case 2 -> both("find(" + n + ")", () -> x.find(n), () -> m.find(n));
                default -> both("count(" + what + ")", () -> x.count(what), () -> m.count(what));
            }
        }

        void call() {
            int kind = dice.below(100);
            if (kind < 22) {
                callMake();
            } else if (kind < 42) {
                callSet();
            } else if (kind < 50) {
                callPut();
            } else if (kind < 60) {
                callRoot();
            } else if (kind < 78) {
                callReader(dice.below(4));
            } else if (kind < 97) {
                callOther(dice.oneIn(3) ? 0 : 1 + dice.below(3));
            } else if (dice.oneIn(3)) {
                callSpace();
            } else {
                both("slide()", x::slide, m::slide);
            }
        }

        /** Goes on beyond the 512th call: answers are free there, but this program's stay the same. */
        void lookAtAll() {
            for (int what = 0; what <= 6; what++) {
                int w = what;
                both("at the end: count(" + w + ")", () -> x.count(w), () -> m.count(w));
            }
            for (int r = 0; r < 16; r++) {
                due("at the end: rooted(" + r + ")", x.rooted(r), m.rooted(r));
            }
            for (int n = 0; n < m.given; n++) {
                due("at the end: find(" + n + ")", x.find(n), m.find(n));
            }
            for (Thing t : m.row) {
                lookAt(t, m.addressOf(t));
            }
        }

        void lookAt(Thing t, int a) {
            both("at the end: next(" + a + ")", () -> x.next(a), () -> m.next(a));
            for (int f = 0; f < t.fields.length && f < 80; f++) {
                int field = f;
                both("at the end: get", () -> x.get(a, field), () -> m.get(a, field));
            }
            for (int k = 0; k < t.words.length && k < 80; k++) {
                int word = k;
                both("at the end: word", () -> x.word(a, word), () -> m.word(a, word));
            }
        }

        void due(String what, int got, int want) {
            REPORT.due(name + ": " + what, got, want);
        }
    }

    public static void main(String[] args) {
        for (int seed = 1; seed <= RUNS; seed++) {
            Run run = new Run(seed);
            for (int i = 0; i < CALLS; i++) {
                run.call();
            }
            run.lookAtAll();
        }
        REPORT.end();
    }
}
