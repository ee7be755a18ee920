/** The boundary cases that the promises 1 to 14 name, sentence by sentence. */
public final class PromiseBoundaryTest {
    private static final Report REPORT = new Report();

    public static void main(String[] args) {
        Sentences sentences = new Sentences(REPORT);
        promises1And2(sentences);
        promise3(sentences);
        promises4To7(sentences);
        promises8And9(sentences);
        promises10To12(sentences);
        promises13And14(sentences);
        REPORT.end();
    }

    private static void due(String what, long got, long want) {
        REPORT.due(what, got, want);
    }

    private static void promises1And2(Sentences s) {
        s.test("Promise 1: A new object", "2048 cells, no objects.", PromiseBoundaryTest::newRow);
        String at = "Promise 2: space";
        s.test(at, "There are n cells from now on", PromiseBoundaryTest::spaceRoom);
        s.test(at, "There are n cells from now on", "the last cell", PromiseBoundaryTest::spaceLastCell);
        String go = "all objects, roots, numbers and counts go";
        s.test(at, go, "objects", PromiseBoundaryTest::spaceObjectsGo);
        s.test(at, go, "roots", PromiseBoundaryTest::spaceRootsGo);
        s.test(at, go, "numbers", PromiseBoundaryTest::spaceNumbersGo);
        s.test(at, go, "counts", PromiseBoundaryTest::spaceCountsGo);
        s.test(at, "how many cells there were", PromiseBoundaryTest::spaceAnswers);
        s.test(at, "IllegalArgumentException: n is not 16 .. 16384.", PromiseBoundaryTest::spaceBounds);
    }

    private static void promise3(Sentences s) {
        String at = "Promise 3: make";
        String room = "0 if there is no room behind the last one";
        s.test(at, room, "just enough", PromiseBoundaryTest::makeJustFits);
        s.test(at, room, "an empty row", PromiseBoundaryTest::makeInAnEmptyRow);
        s.test(at, room, "room only in front of it", PromiseBoundaryTest::makeDoesNotSlide);
        s.test(at, room, "all else is as before", PromiseBoundaryTest::makeWithoutRoom);
        String bounds = "IllegalArgumentException: fields or words is not 0 .. 2000.";
        s.test(at, bounds, "fields", PromiseBoundaryTest::makeFieldBounds);
        s.test(at, bounds, "words", PromiseBoundaryTest::makeWordBounds);
        s.test(at, bounds, "both, and sums that wrap around", PromiseBoundaryTest::makeBothBounds);
        s.test(at, bounds, "in a full row", PromiseBoundaryTest::makeBoundsInAFullRow);
    }

    private static void promises4To7(Sentences s) {
        String set = "Promise 4: set";
        s.test(set, "A field of the object at a becomes the object at b (0: nothing): what it told.",
                PromiseBoundaryTest::setAnswers);
        String none = "NoSuchElementException: a, field, or b (that can be 0).";
        s.test(set, none, "field", PromiseBoundaryTest::setFieldBounds);
        s.test(set, none, "a and b", PromiseBoundaryTest::setZero);
        s.test("Promise 5: get", "What a field tells. NoSuchElementException.", PromiseBoundaryTest::getBounds);
        s.test("Promise 6: put", "A word becomes v: what it was. NoSuchElementException.",
                PromiseBoundaryTest::putBounds);
        s.test("Promise 7: word", "A word. NoSuchElementException.", PromiseBoundaryTest::wordBounds);
    }

    private static void promises8And9(Sentences s) {
        String root = "Promise 8: root";
        s.test(root, "A root becomes the object at a (0: nothing): what it told.", PromiseBoundaryTest::rootAnswers);
        s.test(root, "NoSuchElementException: root, or a (that can be 0).", PromiseBoundaryTest::rootBounds);
        s.test("Promise 9: rooted", "What a root tells. NoSuchElementException.", PromiseBoundaryTest::rootedBounds);
    }

    private static void promises10To12(Sentences s) {
        s.test("Promise 10: slide", "Slides: how many cells the objects take then.", PromiseBoundaryTest::slideAnswers);
        s.test("Promise 10: slide", "Slides: how many cells the objects take then.", "the largest row",
                PromiseBoundaryTest::slideOfTheLargestRow);
        s.test("Promise 11: number", "The identity number of the object at a. NoSuchElementException.",
                PromiseBoundaryTest::numberBounds);
        String find = "Promise 12: find";
        s.test(find, "0 if it was not given", PromiseBoundaryTest::findNotGiven);
        s.test(find, "or that one is gone", "by a slide", PromiseBoundaryTest::findGoneBySlide);
        s.test(find, "or that one is gone", "by space", PromiseBoundaryTest::findGoneBySpace);
    }

    private static void promises13And14(Sentences s) {
        String next = "Promise 13: next";
        s.test(next, "(a = 0: of the first)", PromiseBoundaryTest::nextOfNothing);
        s.test(next, "0 if there is none", "behind the last", PromiseBoundaryTest::nextBehindTheLast);
        s.test(next, "0 if there is none", "no objects", PromiseBoundaryTest::nextWithoutObjects);
        s.test(next, "NoSuchElementException: a (that can be 0).", PromiseBoundaryTest::nextBounds);
        String count = "Promise 14: count";
        s.test(count, "0 objects, 1 cells that they take", PromiseBoundaryTest::countObjects);
        s.test(count, "2 objects reached now", PromiseBoundaryTest::countReachedNow);
        s.test(count, "3 slides, 4 objects that went", PromiseBoundaryTest::countSlides);
        s.test(count, "5 identity numbers given", PromiseBoundaryTest::countGiven);
        s.test(count, "6 the cells", PromiseBoundaryTest::countCells);
        s.test(count, "IllegalArgumentException: none of these.", PromiseBoundaryTest::countBounds);
    }

    private static void newRow() {
        SlideRow x = new SlideRow();
        due("the cells", x.count(6), 2048);
        for (int what = 0; what <= 5; what++) {
            due("count(" + what + ")", x.count(what), 0);
        }
        due("no first object", x.next(0), 0);
        REPORT.noSuch("no object at 1", () -> x.number(1));
        due("no number was given by that", x.find(0), 0);
        due("an object of 2049 cells has no room", x.make(2000, 46), 0);
        due("an object of 2048 cells has", x.make(2000, 45), 1);
        due("another row has none of it", new SlideRow().count(0), 0);
    }

    private static void spaceRoom() {
        for (int n : new int[] {16, 17, 2047, 2048, 2049, 4003}) {
            SlideRow x = new SlideRow();
            int fields = Math.min(2000, n - 3);
            int words = n - 3 - fields;
            due("space(" + n + ")", x.space(n), 2048);
            due("the cells", x.count(6), n);
            if (words < 2000) {
                due("one cell more than " + n, x.make(fields, words + 1), 0);
            }
            due("just " + n + " cells", x.make(fields, words), 1);
            due("cells taken of " + n, x.count(1), n);
        }
    }

    private static void spaceLastCell() {
        for (int n : new int[] {16, 2047, 2048, 2049, 16383, 16384}) {
            SlideRow x = new SlideRow();
            x.space(n);
            int left = n;
            while (left > 2008) {
                x.make(0, 2000);
                left -= 2003;
            }
            int last = x.make(0, left - 3);
            due("the last object of " + n + " cells", last, n - left + 1);
            due("put in cell " + n, x.put(last, left - 4, 77), 0);
            due("word in cell " + n, x.word(last, left - 4), 77);
            due("no room behind cell " + n, x.make(0, 0), 0);
            x.root(0, last);
            due("slide of the last of " + n + " cells", x.slide(), left);
            due("the word from cell " + n, x.word(1, left - 4), 77);
        }
    }

    private static void spaceObjectsGo() {
        SlideRow x = Rows.filled();
        x.space(2048);
        due("objects", x.count(0), 0);
        due("cells that they take", x.count(1), 0);
        due("the first", x.next(0), 0);
        for (int a : new int[] {1, 7, 12, 16}) {
            REPORT.noSuch("next(" + a + ")", () -> x.next(a));
        }
        due("slide", x.slide(), 0);
        due("they did not go by the slide", x.count(4), 0);
        due("all cells are free", x.make(2000, 45), 1);
    }

    private static void spaceRootsGo() {
        SlideRow x = Rows.four();
        for (int r = 0; r <= 15; r++) {
            x.root(r, 1);
        }
        x.space(2048);
        for (int r = 0; r <= 15; r++) {
            due("rooted(" + r + ")", x.rooted(r), 0);
        }
        due("make where the rooted one stood", x.make(2, 1), 1);
        due("it is not reached", x.count(2), 0);
        due("what root 0 told", x.root(0, 1), 0);
    }

    private static void spaceNumbersGo() {
        SlideRow x = Rows.four();
        x.number(1);
        x.number(7);
        x.space(2048);
        due("numbers given", x.count(5), 0);
        due("make where a numbered one stood", x.make(2, 1), 1);
        due("find(0), not given now", x.find(0), 0);
        due("make where the other one stood", x.make(0, 2), 7);
        due("the first number again", x.number(7), 0);
        due("find(0)", x.find(0), 7);
        due("find(1), not given now", x.find(1), 0);
        due("the second number again", x.number(1), 1);
    }

    private static void spaceCountsGo() {
        SlideRow x = Rows.filled();
        x.root(0, 0);
        x.slide();
        due("objects that went", x.count(4), 3);
        x.space(2048);
        for (int what = 0; what <= 5; what++) {
            due("count(" + what + ")", x.count(what), 0);
        }
        due("the cells", x.count(6), 2048);
        x.make(0, 0);
        x.slide();
        due("slides from there on", x.count(3), 1);
        due("objects that went from there on", x.count(4), 1);
    }

    private static void spaceAnswers() {
        SlideRow x = new SlideRow();
        due("at first", x.space(16), 2048);
        due("after space(16)", x.space(16), 16);
        due("after space(16) again", x.space(16384), 16);
        REPORT.illegal("space(16385)", () -> x.space(16385));
        REPORT.illegal("space(15)", () -> x.space(15));
        due("after two that were refused", x.space(2048), 16384);
        due("after space(2048)", x.space(100), 2048);
    }

    private static void spaceBounds() {
        for (int n : new int[] {15, 1, 0, -1, -16, Integer.MIN_VALUE, 16385, 32768, Integer.MAX_VALUE}) {
            SlideRow x = new SlideRow();
            REPORT.illegal("space(" + n + ")", () -> x.space(n));
            due("the cells after space(" + n + ")", x.count(6), 2048);
        }
        for (int n : new int[] {16, 17, 16383, 16384}) {
            SlideRow x = new SlideRow();
            due("space(" + n + ")", x.space(n), 2048);
            due("the cells after space(" + n + ")", x.count(6), n);
        }
    }

    private static void makeJustFits() {
        SlideRow x = new SlideRow();
        x.space(16);
        due("make(1, 3)", x.make(1, 3), 1);
        due("10 cells where 9 are left", x.make(0, 7), 0);
        due("10 cells of fields", x.make(7, 0), 0);
        due("10 cells of both", x.make(3, 4), 0);
        due("9 cells where 9 are left", x.make(3, 3), 8);
        due("3 cells where none is left", x.make(0, 0), 0);
        SlideRow y = new SlideRow();
        y.space(18);
        due("make(0, 12)", y.make(0, 12), 1);
        due("3 cells where 3 are left", y.make(0, 0), 16);
        SlideRow z = new SlideRow();
        z.space(17);
        due("make(0, 12)", z.make(0, 12), 1);
        due("3 cells where 2 are left", z.make(0, 0), 0);
    }

    private static void makeInAnEmptyRow() {
        SlideRow x = new SlideRow();
        x.space(16);
        due("17 cells", x.make(14, 0), 0);
        due("4003 cells", x.make(2000, 2000), 0);
        due("no objects", x.count(0), 0);
        due("16 cells", x.make(13, 0), 1);
    }

    private static void makeDoesNotSlide() {
        SlideRow x = new SlideRow();
        x.space(16);
        x.make(0, 10);
        due("make(0, 0)", x.make(0, 0), 14);
        x.root(0, 14);
        due("room only where an unreached one stands", x.make(0, 0), 0);
        due("objects", x.count(0), 2);
        due("slides", x.count(3), 0);
        due("slide", x.slide(), 3);
        due("14 cells where 13 are left", x.make(0, 11), 0);
        due("13 cells where 13 are left", x.make(0, 10), 4);
        due("no room again", x.make(0, 0), 0);
    }

    private static void makeWithoutRoom() {
        SlideRow x = Rows.filled();
        String before = View.of(x);
        due("make(2000, 26)", x.make(2000, 26), 0);
        due("make(2000, 2000)", x.make(2000, 2000), 0);
        REPORT.due("all else", View.of(x), before);
        due("make(2000, 25)", x.make(2000, 25), 21);
    }

    private static void makeFieldBounds() {
        for (int fields : new int[] {-1, -3, Integer.MIN_VALUE, 2001, 4096, Integer.MAX_VALUE}) {
            SlideRow x = new SlideRow();
            REPORT.illegal("make(" + fields + ", 0)", () -> x.make(fields, 0));
            REPORT.illegal("make(" + fields + ", 3)", () -> x.make(fields, 3));
            due("no object was made", x.count(0), 0);
        }
        SlideRow x = new SlideRow();
        due("make(0, 0)", x.make(0, 0), 1);
        REPORT.noSuch("0 fields have no field 0", () -> x.get(1, 0));
        due("make(2000, 0)", x.make(2000, 0), 4);
        due("the last of 2000 fields", x.set(4, 1999, 1), 0);
        REPORT.noSuch("2000 fields have no field 2000", () -> x.get(4, 2000));
    }

    private static void makeWordBounds() {
        for (int words : new int[] {-1, -3, Integer.MIN_VALUE, 2001, 4096, Integer.MAX_VALUE}) {
            SlideRow x = new SlideRow();
            REPORT.illegal("make(0, " + words + ")", () -> x.make(0, words));
            REPORT.illegal("make(3, " + words + ")", () -> x.make(3, words));
            due("no object was made", x.count(0), 0);
        }
        SlideRow x = new SlideRow();
        due("make(0, 0)", x.make(0, 0), 1);
        REPORT.noSuch("0 words have no word 0", () -> x.word(1, 0));
        due("make(0, 2000)", x.make(0, 2000), 4);
        due("the last of 2000 words", x.put(4, 1999, -1), 0);
        REPORT.noSuch("2000 words have no word 2000", () -> x.word(4, 2000));
    }

    private static void makeBothBounds() {
        int[][] wrong = {{-1, -1}, {2001, 2001}, {-1, 2001}, {2001, -1}, {-1, 2000}, {2000, -1},
            {Integer.MIN_VALUE, Integer.MIN_VALUE}, {Integer.MAX_VALUE, Integer.MAX_VALUE},
            {Integer.MAX_VALUE, Integer.MIN_VALUE}, {-2000, 2000}};
        SlideRow x = new SlideRow();
        x.space(16384);
        for (int[] parts : wrong) {
            REPORT.illegal("make(" + parts[0] + ", " + parts[1] + ")", () -> x.make(parts[0], parts[1]));
        }
        due("make(2000, 2000)", x.make(2000, 2000), 1);
        due("its last field", x.set(1, 1999, 1), 0);
        due("its first word", x.put(1, 0, 5), 0);
        due("its last word", x.put(1, 1999, 6), 0);
        due("its last field is no word", x.get(1, 1999), 1);
        due("the next one's place", x.make(0, 0), 4004);
    }

    private static void makeBoundsInAFullRow() {
        SlideRow x = new SlideRow();
        x.space(16);
        x.make(13, 0);
        REPORT.illegal("make(2001, 0)", () -> x.make(2001, 0));
        REPORT.illegal("make(0, 2001)", () -> x.make(0, 2001));
        REPORT.illegal("make(-1, 0)", () -> x.make(-1, 0));
        REPORT.illegal("make(0, -1)", () -> x.make(0, -1));
        due("make(0, 0)", x.make(0, 0), 0);
        due("make(2000, 2000)", x.make(2000, 2000), 0);
    }

    private static void setAnswers() {
        SlideRow x = Rows.four();
        due("nothing becomes the last object", x.set(1, 0, 16), 0);
        due("the last becomes the first, itself", x.set(1, 0, 1), 16);
        due("the same again", x.set(1, 0, 1), 1);
        due("the first becomes nothing", x.set(1, 0, 0), 1);
        due("nothing becomes nothing", x.set(1, 0, 0), 0);
        due("the other field", x.get(1, 1), 0);
        due("a higher one tells a lower one", x.set(16, 0, 12), 0);
        x.root(0, 16);
        x.slide();
        due("what it told is told by its new address", x.set(5, 0, 0), 1);
    }

    private static void setFieldBounds() {
        SlideRow x = Rows.four();
        due("the first field", x.set(1, 0, 7), 0);
        due("the last field", x.set(1, 1, 7), 0);
        for (int field : new int[] {-1, 2, 3, Integer.MIN_VALUE, Integer.MAX_VALUE}) {
            REPORT.noSuch("set(1, " + field + ", 7)", () -> x.set(1, field, 7));
            REPORT.noSuch("set(1, " + field + ", 0)", () -> x.set(1, field, 0));
        }
        REPORT.noSuch("field 0 of one without fields", () -> x.set(7, 0, 1));
        due("the word behind the last field", x.word(1, 0), 0);
    }

    private static void setZero() {
        SlideRow x = Rows.four();
        due("b can be 0", x.set(12, 0, 0), 0);
        REPORT.noSuch("a can not be 0", () -> x.set(0, 0, 0));
        REPORT.noSuch("a can not be 0, with an object for b", () -> x.set(0, 0, 12));
        REPORT.noSuch("b can not be -1", () -> x.set(12, 0, -1));
        SlideRow none = new SlideRow();
        REPORT.noSuch("a can not be 1 where there are no objects", () -> none.set(1, 0, 0));
    }

    private static void getBounds() {
        SlideRow x = Rows.filled();
        due("the first field", x.get(1, 0), 12);
        due("the last field", x.get(1, 1), 7);
        for (int field : new int[] {-1, 2, 3, Integer.MIN_VALUE, Integer.MAX_VALUE}) {
            REPORT.noSuch("get(1, " + field + ")", () -> x.get(1, field));
        }
        REPORT.noSuch("field 0 of one without fields", () -> x.get(7, 0));
        REPORT.noSuch("a can not be 0", () -> x.get(0, 0));
    }

    private static void putBounds() {
        SlideRow x = Rows.four();
        x.put(7, 0, 3);
        due("the first word", x.put(7, 0, Integer.MIN_VALUE), 3);
        due("the first word again", x.put(7, 0, 4), Integer.MIN_VALUE);
        due("the last word", x.put(7, 1, Integer.MAX_VALUE), 0);
        due("the last word again", x.put(7, 1, -1), Integer.MAX_VALUE);
        for (int k : new int[] {-1, 2, 3, Integer.MIN_VALUE, Integer.MAX_VALUE}) {
            REPORT.noSuch("put(7, " + k + ", 5)", () -> x.put(7, k, 5));
        }
        REPORT.noSuch("word 0 of one without words", () -> x.put(12, 0, 5));
        REPORT.noSuch("a can not be 0", () -> x.put(0, 0, 5));
        due("the object behind is whole", x.next(12), 16);
    }

    private static void wordBounds() {
        SlideRow x = Rows.filled();
        due("the first word", x.word(7, 0), 1);
        due("the last word", x.word(7, 1), 4097);
        due("a word behind fields", x.word(16, 0), 65537);
        for (int k : new int[] {-1, 2, 3, Integer.MIN_VALUE, Integer.MAX_VALUE}) {
            REPORT.noSuch("word(7, " + k + ")", () -> x.word(7, k));
        }
        REPORT.noSuch("word -1 behind fields", () -> x.word(1, -1));
        REPORT.noSuch("word 0 of one without words", () -> x.word(12, 0));
        REPORT.noSuch("a can not be 0", () -> x.word(0, 0));
    }

    private static void rootAnswers() {
        SlideRow x = Rows.four();
        due("nothing becomes the last object", x.root(0, 16), 0);
        due("the last becomes the first", x.root(0, 1), 16);
        due("the same again", x.root(0, 1), 1);
        due("another root of the same", x.root(15, 1), 0);
        due("the first becomes nothing", x.root(0, 0), 1);
        due("nothing becomes nothing", x.root(0, 0), 0);
        due("the other root", x.rooted(15), 1);
        x.root(15, 16);
        x.slide();
        due("what it told is told by its new address", x.root(15, 0), 1);
    }

    private static void rootBounds() {
        SlideRow x = Rows.four();
        due("root(0, 1)", x.root(0, 1), 0);
        due("root(15, 1)", x.root(15, 1), 0);
        due("a can be 0", x.root(0, 0), 1);
        for (int root : new int[] {-1, 16, 17, Integer.MIN_VALUE, Integer.MAX_VALUE}) {
            REPORT.noSuch("root(" + root + ", 1)", () -> x.root(root, 1));
            REPORT.noSuch("root(" + root + ", 0)", () -> x.root(root, 0));
            REPORT.noSuch("root(" + root + ", 2)", () -> x.root(root, 2));
        }
        REPORT.noSuch("a can not be -1", () -> x.root(0, -1));
        SlideRow none = new SlideRow();
        due("a can be 0 where there are no objects", none.root(15, 0), 0);
        REPORT.noSuch("a can not be 1 there", () -> none.root(15, 1));
    }

    private static void rootedBounds() {
        SlideRow x = Rows.filled();
        due("rooted(0)", x.rooted(0), 12);
        due("rooted(1)", x.rooted(1), 0);
        due("rooted(14)", x.rooted(14), 0);
        due("rooted(15)", x.rooted(15), 7);
        for (int root : new int[] {-1, 16, 17, Integer.MIN_VALUE, Integer.MAX_VALUE}) {
            REPORT.noSuch("rooted(" + root + ")", () -> x.rooted(root));
        }
    }

    private static void slideAnswers() {
        due("no objects", new SlideRow().slide(), 0);
        SlideRow x = new SlideRow();
        due("make(0, 0)", x.make(0, 0), 1);
        x.root(0, 1);
        due("the smallest object", x.slide(), 3);
        due("cells that they take", x.count(1), 3);
        x.root(0, 0);
        due("none left", x.slide(), 0);
        due("cells that they take then", x.count(1), 0);
        SlideRow full = new SlideRow();
        full.make(2000, 45);
        full.root(0, 1);
        due("a full row", full.slide(), 2048);
        due("and no room in it", full.make(0, 0), 0);
    }

    private static void slideOfTheLargestRow() {
        SlideRow x = new SlideRow();
        x.space(16384);
        x.make(0, 0);
        for (int i = 0; i < 4; i++) {
            due("make(2000, 2000)", x.make(2000, 2000), 4 + 4003 * i);
            due("the last word", x.put(4 + 4003 * i, 1999, i), 0);
            due("the last field", x.set(4 + 4003 * i, 1999, 4), 0);
            x.root(i, 4 + 4003 * i);
        }
        due("make(366, 0)", x.make(366, 0), 16016);
        due("the field in the last cell", x.set(16016, 365, 16016), 0);
        x.root(15, 16016);
        due("a full row but for the first object", x.slide(), 16381);
        for (int i = 0; i < 4; i++) {
            due("the last word", x.word(1 + 4003 * i, 1999), i);
            due("the last field", x.get(1 + 4003 * i, 1999), 1);
        }
        due("the field from the last cell", x.get(16013, 365), 16013);
        due("the freed cells", x.make(0, 0), 16382);
    }

    private static void numberBounds() {
        SlideRow x = Rows.four();
        for (int a : new int[] {0, -1, 2, 20, 21, Integer.MIN_VALUE, Integer.MAX_VALUE}) {
            REPORT.noSuch("number(" + a + ")", () -> x.number(a));
        }
        due("none given by these", x.count(5), 0);
        due("the last object's", x.number(16), 0);
        due("the first object's", x.number(1), 1);
        due("the last object's again", x.number(16), 0);
        due("two given", x.count(5), 2);
    }

    private static void findNotGiven() {
        SlideRow x = Rows.four();
        for (int number : new int[] {0, -1, 1, Integer.MIN_VALUE, Integer.MAX_VALUE}) {
            due("find(" + number + ") when none was given", x.find(number), 0);
        }
        due("find gives none", x.count(5), 0);
        x.number(7);
        x.number(12);
        due("find(0)", x.find(0), 7);
        due("the last one given", x.find(1), 12);
        for (int number : new int[] {-1, 2, 3, Integer.MIN_VALUE, Integer.MAX_VALUE}) {
            due("find(" + number + ") when two were given", x.find(number), 0);
        }
        due("the next one is 2", x.number(1), 2);
        due("find(2)", x.find(2), 1);
        due("find in a row without objects", new SlideRow().find(0), 0);
    }

    private static void findGoneBySlide() {
        SlideRow x = Rows.four();
        x.number(1);
        x.number(7);
        x.number(16);
        due("find(0) while it can not be reached", x.find(0), 1);
        x.root(0, 7);
        x.slide();
        due("find(0), gone", x.find(0), 0);
        due("find(1), that stayed", x.find(1), 1);
        due("find(2), gone", x.find(2), 0);
        due("make where 16 stood, in part", x.make(9, 9), 6);
        due("find(2), still gone", x.find(2), 0);
        due("a number of its own", x.number(6), 3);
        x.root(0, 0);
        x.slide();
        for (int number = 0; number <= 4; number++) {
            due("find(" + number + ") when all are gone", x.find(number), 0);
        }
    }

    private static void findGoneBySpace() {
        SlideRow x = Rows.four();
        x.number(1);
        x.number(7);
        x.space(2048);
        due("find(0)", x.find(0), 0);
        due("find(1)", x.find(1), 0);
        x.make(2, 1);
        due("find(0) with another object there", x.find(0), 0);
        due("find(-1) with another object there", x.find(-1), 0);
    }

    private static void nextOfNothing() {
        SlideRow x = Rows.four();
        due("next(0)", x.next(0), 1);
        x.root(0, 16);
        x.slide();
        due("next(0) after a slide", x.next(0), 1);
        x.space(16);
        x.make(13, 0);
        due("next(0) in a full row", x.next(0), 1);
    }

    private static void nextBehindTheLast() {
        SlideRow x = Rows.four();
        due("behind the one before the last", x.next(12), 16);
        due("behind the last", x.next(16), 0);
        x.root(0, 1);
        x.slide();
        due("behind the last, where one stood before", x.next(1), 0);
        SlideRow full = new SlideRow();
        full.space(16);
        full.make(0, 10);
        full.make(0, 0);
        due("behind the first in a full row", full.next(1), 14);
        due("behind the last in a full row", full.next(14), 0);
        SlideRow one = new SlideRow();
        one.make(2000, 45);
        due("behind one that takes all cells", one.next(1), 0);
    }

    private static void nextWithoutObjects() {
        SlideRow x = new SlideRow();
        due("in a new row", x.next(0), 0);
        x.make(0, 0);
        x.slide();
        due("when all went by a slide", x.next(0), 0);
        x.make(0, 0);
        x.space(2048);
        due("when all went by space", x.next(0), 0);
        due("when a make had no room", x.make(2000, 2000), 0);
        due("then", x.next(0), 0);
    }

    private static void nextBounds() {
        SlideRow x = Rows.four();
        for (int a : new int[] {-1, 2, 6, 15, 17, 20, 21, 2046, 2048, 2049, Integer.MIN_VALUE, Integer.MAX_VALUE}) {
            REPORT.noSuch("next(" + a + ")", () -> x.next(a));
        }
        due("a can be 0", x.next(0), 1);
        SlideRow none = new SlideRow();
        due("a can be 0 where there are no objects", none.next(0), 0);
        REPORT.noSuch("a can not be 1 there", () -> none.next(1));
    }

    private static void countObjects() {
        SlideRow x = new SlideRow();
        due("no objects", x.count(0), 0);
        due("no cells taken", x.count(1), 0);
        x.make(0, 0);
        due("one object", x.count(0), 1);
        due("three cells taken", x.count(1), 3);
        due("no room", x.make(2000, 2000), 0);
        due("still one object", x.count(0), 1);
        x.make(1000, 1042);
        due("two objects", x.count(0), 2);
        due("all cells taken", x.count(1), 2048);
        x.slide();
        due("no objects again", x.count(0), 0);
        due("no cells taken again", x.count(1), 0);
    }

    private static void countReachedNow() {
        SlideRow x = Rows.filled();
        due("three of four", x.count(2), 3);
        x.root(0, 0);
        due("one, without a slide", x.count(2), 1);
        x.root(15, 0);
        due("none", x.count(2), 0);
        x.root(0, 1);
        due("all four", x.count(2), 4);
        due("objects are counted reached or not", x.count(0), 4);
        due("none went by asking", x.count(4), 0);
    }

    private static void countSlides() {
        SlideRow x = Rows.four();
        x.root(0, 1);
        x.slide();
        due("one slide", x.count(3), 1);
        due("three went", x.count(4), 3);
        x.slide();
        due("two slides, though nothing moved", x.count(3), 2);
        due("still three", x.count(4), 3);
        x.make(0, 0);
        x.root(0, 0);
        x.slide();
        due("three slides", x.count(3), 3);
        due("five went, of all slides", x.count(4), 5);
    }

    private static void countGiven() {
        SlideRow x = Rows.four();
        due("none", x.count(5), 0);
        x.number(1);
        x.number(1);
        due("one, asked for twice", x.count(5), 1);
        x.number(7);
        due("two", x.count(5), 2);
        x.slide();
        due("still two, though both are gone", x.count(5), 2);
    }

    private static void countCells() {
        SlideRow x = new SlideRow();
        due("at first", x.count(6), 2048);
        x.space(16);
        due("the least", x.count(6), 16);
        x.make(0, 0);
        x.slide();
        due("make and slide leave them", x.count(6), 16);
        x.space(16384);
        due("the most", x.count(6), 16384);
    }

    private static void countBounds() {
        SlideRow x = Rows.four();
        for (int what : new int[] {-1, 7, 8, Integer.MIN_VALUE, Integer.MAX_VALUE}) {
            REPORT.illegal("count(" + what + ")", () -> x.count(what));
        }
        due("count(0)", x.count(0), 4);
        due("count(6)", x.count(6), 2048);
    }
}
