/** The promises one by one: ordinary inputs, the edges that the document names, wrong inputs. */
public final class PromiseTest {
    private static final Report REPORT = new Report();
    private static final int[] EXTREMES = {Integer.MIN_VALUE, -2, -1, Integer.MAX_VALUE - 2, Integer.MAX_VALUE};

    private static final int[] LOOKS_LIKE_A_HEADER = {1, 4097, 1 << 16 | 1};

    public static void main(String[] args) {
        promise1NewObject();
        promise2Space();
        promise2SpaceForgets();
        promise2SpaceWrong();
        promise3Make();
        promise3MakeBounds();
        promise3MakeRoom();
        promise3MakeClearsLeftCells();
        promise4Set();
        promise4SetWrong();
        promise5Get();
        promise6Put();
        promise6PutWrong();
        promise7Word();
        promise8Root();
        promise8RootWrong();
        promise9Rooted();
        promise10SlideNothing();
        promise10SlideOrder();
        promise10SlideFollows();
        promise10SlideRings();
        promise10SlideLongLine();
        promise10SlideKeepsWords();
        promise11Number();
        promise11NumberWrong();
        promise12Find();
        promise13Next();
        promise14Count();
        promise14CountReached();
        promise14CountWrong();
        addressesInsideObjects();
        REPORT.end();
    }

    private static void due(String what, long got, long want) {
        REPORT.due(what, got, want);
    }

    /** Runs wrong calls: each throws NoSuchElementException, and leaves all as it was. */
    private static void noSuch(String what, SlideRow x, Report.Call call) {
        String before = View.of(x);
        REPORT.noSuch(what, call);
        REPORT.due(what + " changes nothing", View.of(x), before);
    }

    private static void illegal(String what, SlideRow x, Report.Call call) {
        String before = View.of(x);
        REPORT.illegal(what, call);
        REPORT.due(what + " changes nothing", View.of(x), before);
    }

    /** Objects at 1 (2 fields, 1 word), 7 (2 words), 12 (1 field), 16 (1 field, 1 word); 21 follows. */
    private static SlideRow four() {
        SlideRow x = new SlideRow();
        due("make(2, 1)", x.make(2, 1), 1);
        due("make(0, 2)", x.make(0, 2), 7);
        due("make(1, 0)", x.make(1, 0), 12);
        due("make(1, 1)", x.make(1, 1), 16);
        return x;
    }

    private static void promise1NewObject() {
        SlideRow x = new SlideRow();
        due("new: cells", x.count(6), 2048);
        for (int what = 0; what < 6; what++) {
            due("new: count " + what, x.count(what), 0);
        }
        due("new: next(0)", x.next(0), 0);
        due("new: find(0)", x.find(0), 0);
        for (int r = 0; r < 16; r++) {
            due("new: rooted " + r, x.rooted(r), 0);
        }
        due("new: the room is 2048", x.make(2000, 45), 1);
        SlideRow y = new SlideRow();
        due("new: the room is not 2049", y.make(2000, 46), 0);
        due("new: objects of one are not the other's", y.count(0), 0);
    }

    private static void promise2Space() {
        SlideRow x = new SlideRow();
        due("space(16)", x.space(16), 2048);
        due("space(16): cells", x.count(6), 16);
        due("space(16): no room for 17", x.make(7, 7), 0);
        due("space(16): room for 16", x.make(6, 7), 1);
        due("space(16384)", x.space(16384), 16);
        due("space(16384): cells", x.count(6), 16384);
        for (int i = 0; i < 4; i++) {
            due("space(16384): make", x.make(2000, 2000), 1 + 4003 * i);
        }
        due("space(16384): no room for 373", x.make(0, 370), 0);
        due("space(16384): room for 372", x.make(369, 0), 16013);
        due("space(16384): last field", x.set(16013, 368, 16013), 0);
        due("space(16384): cells taken", x.count(1), 16384);
        due("space again", x.space(16384), 16384);
        due("space again: no objects", x.count(0), 0);
        due("space(2049)", x.space(2049), 16384);
        due("space(2049): no room for 2050", x.make(2000, 47), 0);
        due("space(2049): room for 2049", x.make(2000, 46), 1);
        for (int n : new int[] {16, 2047, 2048, 2049, 16384}) {
            lastCellHolds(n);
        }
    }

    /** On a new object: a space just above the first one needs a longer row too. */
    private static void lastCellHolds(int n) {
        SlideRow x = new SlideRow();
        due("space(" + n + ")", x.space(n), 2048);
        int left = n;
        int last = 0;
        while (left > 0) {
            int size = left <= 2003 ? left : Math.min(2003, left - 4);
            last = x.make(0, size - 3);
            due("space(" + n + "): make", last, n - left + 1);
            left -= size;
        }
        int k = n - last - 3;
        due("space(" + n + "): put in the last cell", x.put(last, k, 77), 0);
        due("space(" + n + "): word in the last cell", x.word(last, k), 77);
        x.root(0, last);
        due("space(" + n + "): slide", x.slide(), k + 4);
        due("space(" + n + "): the last cell's word has moved", x.word(1, k), 77);
    }

    private static void promise2SpaceForgets() {
        SlideRow x = four();
        x.root(0, 12);
        x.root(15, 7);
        x.number(16);
        x.number(12);
        x.put(7, 0, 5);
        x.slide();
        due("space(2048)", x.space(2048), 2048);
        for (int what = 0; what < 6; what++) {
            due("space: count " + what, x.count(what), 0);
        }
        due("space: next(0)", x.next(0), 0);
        due("space: find(0)", x.find(0), 0);
        due("space: find(1)", x.find(1), 0);
        due("space: rooted(0)", x.rooted(0), 0);
        due("space: rooted(15)", x.rooted(15), 0);
        noSuch("space: get(1, 0)", x, () -> x.get(1, 0));
        due("space: the first is made at 1", x.make(1, 3), 1);
        due("space: fields are nothing", x.get(1, 0), 0);
        due("space: words are 0", x.word(1, 0) | x.word(1, 1) | x.word(1, 2), 0);
        due("space: no number was given", x.find(0), 0);
        due("space: numbers begin at 0", x.number(1), 0);
        due("space: find(0) now", x.find(0), 1);
        due("space: slide", x.slide(), 0);
        due("space: slides", x.count(3), 1);
        due("space: went", x.count(4), 1);
    }

    private static void promise2SpaceWrong() {
        SlideRow x = four();
        x.root(3, 12);
        x.number(12);
        for (int n : new int[] {0, 1, 15, 16385, 32768}) {
            illegal("space(" + n + ")", x, () -> x.space(n));
        }
        for (int n : EXTREMES) {
            illegal("space(" + n + ")", x, () -> x.space(n));
        }
    }

    private static void promise3Make() {
        SlideRow x = four();
        due("make: objects", x.count(0), 4);
        due("make: cells taken", x.count(1), 20);
        due("make(0, 0)", x.make(0, 0), 21);
        due("make behind the smallest", x.make(0, 0), 24);
        for (int f = 0; f < 2; f++) {
            due("make: field " + f, x.get(1, f), 0);
        }
        due("make: word", x.word(1, 0), 0);
        x.root(0, 7);
        x.slide();
        due("make behind what a slide left", x.make(0, 0), 6);
        x.root(0, 0);
        x.slide();
        due("make when all went", x.make(0, 0), 1);
    }

    private static void promise3MakeBounds() {
        SlideRow x = four();
        x.space(16384);
        due("make(2000, 0)", x.make(2000, 0), 1);
        due("make(0, 2000)", x.make(0, 2000), 2004);
        due("make(2000, 2000)", x.make(2000, 2000), 4007);
        due("make(2000, 2000): last field", x.set(4007, 1999, 1), 0);
        due("make(2000, 2000): last word", x.put(4007, 1999, -3), 0);
        due("make(2000, 2000): get", x.get(4007, 1999), 1);
        due("make(2000, 2000): word", x.word(4007, 1999), -3);
        noSuch("get(4007, 2000)", x, () -> x.get(4007, 2000));
        noSuch("word(4007, 2000)", x, () -> x.word(4007, 2000));
        for (int wrong : new int[] {2001, 4096, -1, Integer.MIN_VALUE, Integer.MAX_VALUE}) {
            illegal("make(" + wrong + ", 0)", x, () -> x.make(wrong, 0));
            illegal("make(0, " + wrong + ")", x, () -> x.make(0, wrong));
            illegal("make(" + wrong + ", " + wrong + ")", x, () -> x.make(wrong, wrong));
        }
        illegal("make(-1, 1)", x, () -> x.make(-1, 1));
    }

    private static void promise3MakeRoom() {
        SlideRow x = new SlideRow();
        x.space(16);
        due("make(0, 10)", x.make(0, 10), 1);
        String before = View.of(x);
        due("make without room", x.make(0, 1), 0);
        due("make(2000, 2000) without room", x.make(2000, 2000), 0);
        REPORT.due("make without room changes nothing", View.of(x), before);
        illegal("make(2001, 0) without room", x, () -> x.make(2001, 0));
        illegal("make(0, -1) without room", x, () -> x.make(0, -1));
        due("make(0, 0) in the last three cells", x.make(0, 0), 14);
        due("make(0, 0) in a full row", x.make(0, 0), 0);
        x.root(0, 14);
        due("a make without room slides nothing", x.count(3), 0);
        x.slide();
        due("room behind the last after a slide", x.make(5, 5), 4);
        due("full again", x.make(0, 0), 0);
    }

    private static void promise3MakeClearsLeftCells() {
        SlideRow x = new SlideRow();
        x.make(0, 40);
        for (int k = 0; k < 40; k++) {
            x.put(1, k, -1 - k);
        }
        x.number(1);
        x.slide();
        due("left cells: make(3, 0)", x.make(3, 0), 1);
        due("left cells: make(0, 4)", x.make(0, 4), 7);
        due("left cells: make(2, 2)", x.make(2, 2), 14);
        for (int f = 0; f < 3; f++) {
            due("left cells: field", x.get(1, f), 0);
        }
        for (int k = 0; k < 4; k++) {
            due("left cells: word", x.word(7, k), 0);
        }
        due("left cells: number", x.number(14), 1);
        due("left cells: the old number stays gone", x.find(0), 0);
    }

    private static void promise4Set() {
        SlideRow x = four();
        due("set(1, 0, 12)", x.set(1, 0, 12), 0);
        due("set(1, 1, 7)", x.set(1, 1, 7), 0);
        due("set(1, 0, 16)", x.set(1, 0, 16), 12);
        due("the other field stays", x.get(1, 1), 7);
        due("set(1, 0, 1): itself", x.set(1, 0, 1), 16);
        due("set(1, 0, 0): nothing", x.set(1, 0, 0), 1);
        due("set(1, 0, 0): it told nothing", x.set(1, 0, 0), 0);
        due("set leaves the word", x.word(1, 0), 0);
        due("set(16, 0, 12)", x.set(16, 0, 12), 0);
        due("set of another object", x.get(12, 0), 0);
    }

    private static void promise4SetWrong() {
        SlideRow x = four();
        x.set(1, 0, 12);
        for (int a : new int[] {0, 2, 6, 8, 20, 21, 2048, 2049}) {
            noSuch("set(" + a + ", 0, 0)", x, () -> x.set(a, 0, 0));
        }
        for (int b : new int[] {2, 13, 20, 21, 2048, 2049}) {
            noSuch("set(1, 0, " + b + ")", x, () -> x.set(1, 0, b));
        }
        for (int wrong : EXTREMES) {
            noSuch("set(" + wrong + ", 0, 0)", x, () -> x.set(wrong, 0, 0));
            noSuch("set(1, " + wrong + ", 7)", x, () -> x.set(1, wrong, 7));
            noSuch("set(1, 0, " + wrong + ")", x, () -> x.set(1, 0, wrong));
        }
        noSuch("set(1, 2, 7)", x, () -> x.set(1, 2, 7));
        noSuch("set(7, 0, 1): no fields", x, () -> x.set(7, 0, 1));
        noSuch("set(12, 1, 1)", x, () -> x.set(12, 1, 1));
    }

    private static void promise5Get() {
        SlideRow x = four();
        x.set(1, 1, 16);
        x.put(1, 0, 99);
        due("get(1, 1)", x.get(1, 1), 16);
        due("get(1, 0)", x.get(1, 0), 0);
        due("get again", x.get(1, 1), 16);
        noSuch("get(1, 2)", x, () -> x.get(1, 2));
        noSuch("get(7, 0)", x, () -> x.get(7, 0));
        noSuch("get(0, 0)", x, () -> x.get(0, 0));
        noSuch("get(21, 0)", x, () -> x.get(21, 0));
        for (int wrong : EXTREMES) {
            noSuch("get(" + wrong + ", 0)", x, () -> x.get(wrong, 0));
            noSuch("get(1, " + wrong + ")", x, () -> x.get(1, wrong));
        }
    }

    private static void promise6Put() {
        SlideRow x = four();
        due("put(7, 0, 5)", x.put(7, 0, 5), 0);
        due("put(7, 1, least)", x.put(7, 1, Integer.MIN_VALUE), 0);
        due("put(7, 0, most)", x.put(7, 0, Integer.MAX_VALUE), 5);
        due("put(7, 1, 0)", x.put(7, 1, 0), Integer.MIN_VALUE);
        due("put(7, 0, -1)", x.put(7, 0, -1), Integer.MAX_VALUE);
        due("put(16, 0, 1)", x.put(16, 0, 1), 0);
        due("put leaves fields", x.get(16, 0), 0);
        due("put leaves other words", x.word(7, 1), 0);
        due("put: word", x.word(7, 0), -1);
    }

    private static void promise6PutWrong() {
        SlideRow x = four();
        x.put(1, 0, 8);
        noSuch("put(1, 1, 3)", x, () -> x.put(1, 1, 3));
        noSuch("put(12, 0, 3): no words", x, () -> x.put(12, 0, 3));
        noSuch("put(0, 0, 3)", x, () -> x.put(0, 0, 3));
        noSuch("put(2, 0, 3)", x, () -> x.put(2, 0, 3));
        noSuch("put(21, 0, 3)", x, () -> x.put(21, 0, 3));
        for (int wrong : EXTREMES) {
            noSuch("put(" + wrong + ", 0, 3)", x, () -> x.put(wrong, 0, 3));
            noSuch("put(1, " + wrong + ", 3)", x, () -> x.put(1, wrong, 3));
        }
    }

    private static void promise7Word() {
        SlideRow x = four();
        x.put(7, 1, -8);
        x.set(16, 0, 12);
        due("word(7, 1)", x.word(7, 1), -8);
        due("word(7, 0)", x.word(7, 0), 0);
        due("word behind a field", x.word(16, 0), 0);
        due("word again", x.word(7, 1), -8);
        noSuch("word(7, 2)", x, () -> x.word(7, 2));
        noSuch("word(12, 0)", x, () -> x.word(12, 0));
        noSuch("word(0, 0)", x, () -> x.word(0, 0));
        noSuch("word(3, 0)", x, () -> x.word(3, 0));
        for (int wrong : EXTREMES) {
            noSuch("word(" + wrong + ", 0)", x, () -> x.word(wrong, 0));
            noSuch("word(7, " + wrong + ")", x, () -> x.word(7, wrong));
        }
    }

    private static void promise8Root() {
        SlideRow x = four();
        due("root(0, 7)", x.root(0, 7), 0);
        due("root(15, 7)", x.root(15, 7), 0);
        due("root(0, 1)", x.root(0, 1), 7);
        due("root(0, 0)", x.root(0, 0), 1);
        due("root(0, 0) again", x.root(0, 0), 0);
        due("the other root stays", x.rooted(15), 7);
    }

    private static void promise8RootWrong() {
        SlideRow x = four();
        x.root(0, 7);
        noSuch("root(16, 0)", x, () -> x.root(16, 0));
        noSuch("root(16, 1)", x, () -> x.root(16, 1));
        for (int a : new int[] {2, 8, 20, 21, 2048}) {
            noSuch("root(0, " + a + ")", x, () -> x.root(0, a));
        }
        for (int wrong : EXTREMES) {
            noSuch("root(" + wrong + ", 0)", x, () -> x.root(wrong, 0));
            noSuch("root(0, " + wrong + ")", x, () -> x.root(0, wrong));
        }
    }

    private static void promise9Rooted() {
        SlideRow x = four();
        for (int r = 0; r < 16; r++) {
            due("rooted at first", x.rooted(r), 0);
        }
        x.root(15, 16);
        due("rooted(15)", x.rooted(15), 16);
        due("rooted(15) again", x.rooted(15), 16);
        due("rooted(14)", x.rooted(14), 0);
        noSuch("rooted(16)", x, () -> x.rooted(16));
        for (int wrong : EXTREMES) {
            noSuch("rooted(" + wrong + ")", x, () -> x.rooted(wrong));
        }
    }

    private static void promise10SlideNothing() {
        SlideRow x = new SlideRow();
        due("slide of no objects", x.slide(), 0);
        due("slide of no objects is counted", x.count(3), 1);
        SlideRow y = four();
        y.set(1, 0, 12);
        y.set(12, 0, 1);
        due("slide without roots", y.slide(), 0);
        due("all went", y.count(0), 0);
        due("four went", y.count(4), 4);
        noSuch("get(1, 0) of what went", y, () -> y.get(1, 0));
        due("next(0) when all went", y.next(0), 0);
    }

    private static void promise10SlideOrder() {
        SlideRow x = four();
        x.put(1, 0, 10);
        x.put(7, 0, 70);
        x.put(16, 0, 160);
        x.root(9, 16);
        x.root(2, 7);
        due("slide: cells", x.slide(), 10);
        due("slide: the higher one stays behind", x.rooted(9), 6);
        due("slide: the lower one is first", x.rooted(2), 1);
        due("slide: word of the first", x.word(1, 0), 70);
        due("slide: word of the second", x.word(6, 0), 160);
        due("slide: next(0)", x.next(0), 1);
        due("slide: next(1)", x.next(1), 6);
        due("slide: next(6)", x.next(6), 0);
        String before = View.of(x).replace("count 3 = 1", "count 3 = 2");
        due("slide again", x.slide(), 10);
        REPORT.due("a second slide moves nothing", View.of(x), before);
        noSuch("the old address", x, () -> x.word(7, 0));
        noSuch("the old address 16", x, () -> x.root(0, 16));
    }

    private static void promise10SlideFollows() {
        SlideRow x = four();
        x.make(3, 1);
        x.set(21, 0, 12);
        x.set(21, 2, 21);
        x.set(12, 0, 16);
        x.set(16, 0, 21);
        x.root(5, 21);
        x.root(6, 21);
        x.root(7, 12);
        due("slide: what fields tell stays", x.slide(), 4 + 5 + 7);
        due("root 5", x.rooted(5), 10);
        due("root 6", x.rooted(6), 10);
        due("root 7", x.rooted(7), 1);
        due("root 8", x.rooted(8), 0);
        due("field to a lower one", x.get(10, 0), 1);
        due("field of nothing", x.get(10, 1), 0);
        due("field to itself", x.get(10, 2), 10);
        due("field to a higher one", x.get(1, 0), 5);
        due("field to the last", x.get(5, 0), 10);
        due("went", x.count(4), 2);
    }

    private static void promise10SlideRings() {
        SlideRow x = four();
        x.set(1, 0, 12);
        x.set(12, 0, 1);
        x.root(0, 16);
        due("a ring that no root reaches goes", x.slide(), 5);
        due("root of the one that stays", x.rooted(0), 1);
        due("its field", x.get(1, 0), 0);
    }

    private static void promise10SlideLongLine() {
        SlideRow x = new SlideRow();
        int links = 240;
        for (int i = 0; i < links; i++) {
            x.make(1, 0);
            if (i > 0) {
                x.set(1 + 4 * i, 0, 1 + 4 * (i - 1));
            }
        }
        x.root(0, 1 + 4 * (links - 1));
        due("long line: reached", x.count(2), links);
        due("long line: slide", x.slide(), 4 * links);
        x.root(0, 1 + 4 * 9);
        due("long line: a piece", x.slide(), 40);
    }

    private static void promise10SlideKeepsWords() {
        SlideRow x = new SlideRow();
        x.make(0, 1);
        x.make(2, 6);
        int[] words = {1, 5, -1, Integer.MIN_VALUE, Integer.MAX_VALUE, 0};
        for (int k = 0; k < words.length; k++) {
            x.put(5, k, words[k]);
        }
        x.set(5, 1, 5);
        x.root(0, 5);
        due("slide by less than the object's size", x.slide(), 11);
        for (int k = 0; k < words.length; k++) {
            due("a word is no address", x.word(1, k), words[k]);
        }
        due("field 0", x.get(1, 0), 0);
        due("field 1", x.get(1, 1), 1);
        noSuch("no third field", x, () -> x.get(1, 2));
        noSuch("no seventh word", x, () -> x.word(1, 6));
        due("words reach nothing", x.count(2), 1);
    }

    private static void promise11Number() {
        SlideRow x = four();
        due("number(16)", x.number(16), 0);
        due("number(1)", x.number(1), 1);
        due("number(16) again", x.number(16), 0);
        due("given", x.count(5), 2);
        x.root(0, 16);
        x.slide();
        due("a number goes along", x.number(1), 0);
        due("given after the slide", x.count(5), 2);
        due("make", x.make(0, 0), 6);
        due("a number that went is not given again", x.number(6), 2);
        due("given now", x.count(5), 3);
    }

    private static void promise11NumberWrong() {
        SlideRow x = four();
        for (int a : new int[] {0, 2, 8, 20, 21, 2048}) {
            noSuch("number(" + a + ")", x, () -> x.number(a));
        }
        for (int wrong : EXTREMES) {
            noSuch("number(" + wrong + ")", x, () -> x.number(wrong));
        }
        due("none given by wrong calls", x.count(5), 0);
        due("the first is still 0", x.number(7), 0);
    }

    private static void promise12Find() {
        SlideRow x = four();
        due("find(0) before any was given", x.find(0), 0);
        due("find(-1) before any was given", x.find(-1), 0);
        x.number(16);
        x.number(7);
        x.number(12);
        due("find(0)", x.find(0), 16);
        due("find(1)", x.find(1), 7);
        due("find(2)", x.find(2), 12);
        due("find(3): not given", x.find(3), 0);
        for (int wrong : EXTREMES) {
            due("find(" + wrong + ")", x.find(wrong), 0);
        }
        due("find gives none", x.count(5), 3);
        x.root(0, 12);
        x.set(12, 0, 16);
        x.slide();
        due("find(0) after a slide", x.find(0), 5);
        due("find(1): gone", x.find(1), 0);
        due("find(2) after a slide", x.find(2), 1);
        x.make(0, 0);
        due("find(1) stays gone", x.find(1), 0);
    }

    private static void promise13Next() {
        SlideRow x = four();
        due("next(0)", x.next(0), 1);
        due("next(1)", x.next(1), 7);
        due("next(7)", x.next(7), 12);
        due("next(12)", x.next(12), 16);
        due("next(16)", x.next(16), 0);
        for (int a : new int[] {2, 6, 15, 20, 21, 2048, 2049}) {
            noSuch("next(" + a + ")", x, () -> x.next(a));
        }
        for (int wrong : EXTREMES) {
            noSuch("next(" + wrong + ")", x, () -> x.next(wrong));
        }
        SlideRow full = new SlideRow();
        full.space(16);
        full.make(0, 10);
        full.make(0, 0);
        due("next in a full row", full.next(1), 14);
        due("next of the last in a full row", full.next(14), 0);
    }

    private static void promise14Count() {
        SlideRow x = four();
        x.number(7);
        x.number(1);
        x.root(0, 7);
        x.root(1, 7);
        int[] before = {4, 20, 1, 0, 0, 2, 2048};
        for (int what = 0; what < before.length; what++) {
            due("count " + what, x.count(what), before[what]);
        }
        x.slide();
        x.make(0, 0);
        x.slide();
        int[] after = {1, 5, 1, 2, 4, 2, 2048};
        for (int what = 0; what < after.length; what++) {
            due("count " + what + " after slides", x.count(what), after[what]);
        }
    }

    private static void promise14CountReached() {
        SlideRow x = four();
        x.set(1, 0, 12);
        x.set(1, 1, 12);
        x.set(12, 0, 1);
        due("reached without roots", x.count(2), 0);
        x.root(15, 12);
        due("reached through a ring", x.count(2), 2);
        due("reached again", x.count(2), 2);
        x.set(1, 1, 16);
        due("reached through a field", x.count(2), 3);
        x.set(12, 0, 0);
        due("reached now", x.count(2), 1);
        String before = View.of(x);
        x.count(2);
        REPORT.due("count changes nothing", View.of(x), before);
        due("count is no slide", x.count(3), 0);
    }

    private static void promise14CountWrong() {
        SlideRow x = four();
        illegal("count(7)", x, () -> x.count(7));
        for (int wrong : EXTREMES) {
            illegal("count(" + wrong + ")", x, () -> x.count(wrong));
        }
    }

    /** A word that looks like an object's beginning makes none. */
    private static void addressesInsideObjects() {
        SlideRow x = new SlideRow();
        x.make(0, 9);
        for (int k = 0; k < 9; k++) {
            x.put(1, k, k % 3 == 0 ? 0 : LOOKS_LIKE_A_HEADER[k / 3]);
        }
        for (int a = 2; a <= 20; a++) {
            int inside = a;
            noSuch("next(" + inside + ")", x, () -> x.next(inside));
            noSuch("number(" + inside + ")", x, () -> x.number(inside));
            noSuch("get(" + inside + ", 0)", x, () -> x.get(inside, 0));
            noSuch("word(" + inside + ", 0)", x, () -> x.word(inside, 0));
            noSuch("put(" + inside + ", 0, 5)", x, () -> x.put(inside, 0, 5));
            noSuch("set(" + inside + ", 0, 1)", x, () -> x.set(inside, 0, 1));
        }
    }
}
