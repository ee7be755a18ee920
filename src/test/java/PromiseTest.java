/** The promises 1 to 14, one by one, with ordinary inputs; their boundary cases have tests of their own. */
public final class PromiseTest {
    private static final Report REPORT = new Report();

    public static void main(String[] args) {
        promise1NewObject();
        promise2Space();
        promise3Make();
        promise4Set();
        promise5Get();
        promise6Put();
        promise7Word();
        promise8Root();
        promise9Rooted();
        promise10SlideMoves();
        promise10SlideFollows();
        promise10SlideKeepsWords();
        promise11Number();
        promise12Find();
        promise13Next();
        promise14Count();
        REPORT.end();
    }

    private static void due(String what, long got, long want) {
        REPORT.due(what, got, want);
    }

    private static void promise1NewObject() {
        SlideRow x = new SlideRow();
        due("new: cells", x.count(6), 2048);
        due("new: objects", x.count(0), 0);
        x.make(2, 3);
        due("new: objects of one row are not another's", new SlideRow().count(0), 0);
    }

    private static void promise2Space() {
        SlideRow x = Rows.filled();
        due("space(100)", x.space(100), 2048);
        due("space(100): cells", x.count(6), 100);
        due("space(100): objects", x.count(0), 0);
        due("space(100): a root", x.rooted(0), 0);
        due("space(100): make", x.make(10, 20), 1);
        due("space(5000)", x.space(5000), 100);
        due("space(5000): make", x.make(1000, 1500), 1);
        due("space(5000): make another", x.make(1500, 900), 2504);
    }

    private static void promise3Make() {
        SlideRow x = new SlideRow();
        due("make(2, 1)", x.make(2, 1), 1);
        due("make(0, 2)", x.make(0, 2), 7);
        due("make(1, 0)", x.make(1, 0), 12);
        due("make(1, 1)", x.make(1, 1), 16);
        due("make: objects", x.count(0), 4);
        due("make: cells taken", x.count(1), 20);
        due("make: field", x.get(1, 1), 0);
        due("make: word", x.word(7, 1), 0);
    }

    private static void promise4Set() {
        SlideRow x = Rows.four();
        due("set(1, 0, 12)", x.set(1, 0, 12), 0);
        due("set(1, 1, 7)", x.set(1, 1, 7), 0);
        due("set(1, 0, 16)", x.set(1, 0, 16), 12);
        due("the other field stays", x.get(1, 1), 7);
        due("set leaves the word", x.word(1, 0), 0);
        due("set(16, 0, 12)", x.set(16, 0, 12), 0);
        due("set leaves another object", x.get(12, 0), 0);
    }

    private static void promise5Get() {
        SlideRow x = Rows.four();
        x.set(1, 1, 16);
        x.put(1, 0, 99);
        due("get(1, 1)", x.get(1, 1), 16);
        due("get(1, 0)", x.get(1, 0), 0);
        due("get again", x.get(1, 1), 16);
    }

    private static void promise6Put() {
        SlideRow x = Rows.four();
        due("put(7, 0, 5)", x.put(7, 0, 5), 0);
        due("put(7, 1, -6)", x.put(7, 1, -6), 0);
        due("put(7, 0, 8)", x.put(7, 0, 8), 5);
        due("put leaves other words", x.word(7, 1), -6);
        due("put(16, 0, 1)", x.put(16, 0, 1), 0);
        due("put leaves fields", x.get(16, 0), 0);
    }

    private static void promise7Word() {
        SlideRow x = Rows.four();
        x.put(7, 1, -8);
        x.set(16, 0, 12);
        due("word(7, 1)", x.word(7, 1), -8);
        due("word(7, 0)", x.word(7, 0), 0);
        due("word behind a field", x.word(16, 0), 0);
        due("word again", x.word(7, 1), -8);
    }

    private static void promise8Root() {
        SlideRow x = Rows.four();
        due("root(3, 7)", x.root(3, 7), 0);
        due("root(4, 7)", x.root(4, 7), 0);
        due("root(3, 1)", x.root(3, 1), 7);
        due("root(3, 0)", x.root(3, 0), 1);
        due("the other root stays", x.rooted(4), 7);
    }

    private static void promise9Rooted() {
        SlideRow x = Rows.four();
        due("rooted(9) at first", x.rooted(9), 0);
        x.root(9, 16);
        due("rooted(9)", x.rooted(9), 16);
        due("rooted(9) again", x.rooted(9), 16);
        due("rooted(8)", x.rooted(8), 0);
    }

    private static void promise10SlideMoves() {
        SlideRow x = Rows.four();
        x.put(1, 0, 10);
        x.put(7, 0, 70);
        x.put(16, 0, 160);
        x.root(9, 16);
        x.root(2, 7);
        due("slide: cells", x.slide(), 10);
        due("slide: the higher one stays behind", x.rooted(9), 6);
        due("slide: the lower one is first", x.rooted(2), 1);
        due("slide: word of the first", x.word(1, 0), 70);
        due("slide: word of the second", x.word(6, 0), 160);
        String before = View.of(x).replace("count 3 = 1", "count 3 = 2");
        due("slide again", x.slide(), 10);
        REPORT.due("a second slide moves nothing", View.of(x), before);
    }

    private static void promise10SlideFollows() {
        SlideRow x = Rows.four();
        x.make(3, 1);
        x.set(21, 0, 12);
        x.set(21, 2, 21);
        x.set(12, 0, 16);
        x.set(16, 0, 21);
        x.root(5, 21);
        x.root(6, 21);
        x.root(7, 12);
        due("slide: what fields tell stays", x.slide(), 4 + 5 + 7);
        due("root 5", x.rooted(5), 10);
        due("root 6", x.rooted(6), 10);
        due("root 7", x.rooted(7), 1);
        due("root 8", x.rooted(8), 0);
        due("field to a lower one", x.get(10, 0), 1);
        due("field of nothing", x.get(10, 1), 0);
        due("field to itself", x.get(10, 2), 10);
        due("field to a higher one", x.get(1, 0), 5);
        due("field to the last", x.get(5, 0), 10);
        due("went", x.count(4), 2);
    }

    private static void promise10SlideKeepsWords() {
        SlideRow x = new SlideRow();
        x.make(0, 1);
        x.make(2, 6);
        int[] words = {1, 5, -1, Integer.MIN_VALUE, Integer.MAX_VALUE, 0};
        for (int k = 0; k < words.length; k++) {
            x.put(5, k, words[k]);
        }
        x.set(5, 1, 5);
        x.root(0, 5);
        due("slide by less than the object's size", x.slide(), 11);
        for (int k = 0; k < words.length; k++) {
            due("a word is no address", x.word(1, k), words[k]);
        }
        due("field 0", x.get(1, 0), 0);
        due("field 1", x.get(1, 1), 1);
    }

    private static void promise11Number() {
        SlideRow x = Rows.four();
        due("number(16)", x.number(16), 0);
        due("number(1)", x.number(1), 1);
        due("number(16) again", x.number(16), 0);
        x.root(0, 16);
        x.slide();
        due("a number goes along", x.number(1), 0);
        due("make", x.make(0, 0), 6);
        due("a number that went is not given again", x.number(6), 2);
    }

    private static void promise12Find() {
        SlideRow x = Rows.four();
        x.number(16);
        x.number(7);
        x.number(12);
        due("find(0)", x.find(0), 16);
        due("find(1)", x.find(1), 7);
        due("find(2)", x.find(2), 12);
        x.root(0, 12);
        x.set(12, 0, 16);
        x.slide();
        due("find(0) after a slide", x.find(0), 5);
        due("find(2) after a slide", x.find(2), 1);
    }

    private static void promise13Next() {
        SlideRow x = Rows.four();
        due("next(1)", x.next(1), 7);
        due("next(7)", x.next(7), 12);
        due("next(12)", x.next(12), 16);
        x.root(0, 7);
        x.root(1, 12);
        x.slide();
        due("next(1) after a slide", x.next(1), 6);
    }

    private static void promise14Count() {
        SlideRow x = Rows.four();
        x.number(7);
        x.number(1);
        x.root(0, 7);
        x.root(1, 7);
        counts("before slides", x, 4, 20, 1, 0, 0, 2, 2048);
        x.slide();
        x.make(0, 0);
        x.slide();
        counts("after slides", x, 1, 5, 1, 2, 4, 2, 2048);
    }

    private static void counts(String when, SlideRow x, int... want) {
        for (int what = 0; what < want.length; what++) {
            due("count(" + what + ") " + when, x.count(what), want[what]);
        }
    }
}
