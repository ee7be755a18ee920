/** The boundary cases that the document's parts "What it is" and "Terms" name, sentence by sentence. */
public final class TermsBoundaryTest {
    private static final Report REPORT = new Report();
    private static final int LAST_CALL = 512;

    public static void main(String[] args) {
        Sentences sentences = new Sentences(REPORT);
        whatItIs(sentences);
        termsOfObjects(sentences);
        termsOfSlides(sentences);
        termsOfNumbersAndExceptions(sentences);
        REPORT.end();
    }

    private static void due(String what, long got, long want) {
        REPORT.due(what, got, want);
    }

    private static void whatItIs(Sentences s) {
        String at = "What it is";
        String calls = "An object is used for at most 512 calls after it has been made";
        s.test(at, calls, "512 makes", TermsBoundaryTest::makesUpToTheLastCall);
        s.test(at, calls, "512 slides", TermsBoundaryTest::slidesUpToTheLastCall);
        s.test(at, calls, "512 numbers and finds", TermsBoundaryTest::numbersUpToTheLastCall);
        s.test(at, calls, "512 spaces", TermsBoundaryTest::spacesUpToTheLastCall);
        s.test(at, calls, "512 refused calls", TermsBoundaryTest::refusedUpToTheLastCall);
        s.test(at, calls, "the longest line of objects", TermsBoundaryTest::longestLine);
    }

    private static void termsOfObjects(Sentences s) {
        String at = "Terms";
        s.test(at, "CELLS are 1 .. n; n is 2048 at first.", TermsBoundaryTest::cellsFromFirstToLast);
        s.test(at, "An OBJECT has FIELDS, each nothing (0) or an object, told by its ADDRESS",
                TermsBoundaryTest::fieldsTellNothingOrAnObject);
        s.test(at, "WORDS, ints (all 0 at first).", TermsBoundaryTest::wordsHoldAnyInt);
        s.test(at, "WORDS, ints (all 0 at first).", "in used cells", TermsBoundaryTest::wordsInUsedCells);
        s.test(at, "It takes 3 + its fields + its words cells; its address is the first of these.",
                TermsBoundaryTest::sizesFromLeastToMost);
        String places = "The first object is made at 1, each other one directly behind the last that is there.";
        s.test(at, places, TermsBoundaryTest::placesInANewRow);
        s.test(at, places, "behind a refused make", TermsBoundaryTest::placesBehindRefusedMakes);
        s.test(at, places, "after a slide", TermsBoundaryTest::placesAfterASlide);
        s.test(at, places, "after space", TermsBoundaryTest::placesAfterSpace);
        String roots = "ROOTS are 0 .. 15, each nothing (0) or an object's address (nothing at first).";
        s.test(at, roots, TermsBoundaryTest::rootsFromFirstToLast);
        s.test(at, roots, "-1 and 16", TermsBoundaryTest::rootsBeyond);
    }

    private static void termsOfSlides(Sentences s) {
        String at = "Terms";
        String reached = "REACHED are the objects in roots, and those in fields of reached ones.";
        s.test(at, reached, "none", TermsBoundaryTest::noneReached);
        s.test(at, reached, "all", TermsBoundaryTest::allReached);
        s.test(at, reached, "by several ways", TermsBoundaryTest::reachedByManyWays);
        s.test(at, reached, "not by words", TermsBoundaryTest::notReachedByWords);
        String goes = "A SLIDE: what is not reached goes";
        s.test(at, goes, "no objects", TermsBoundaryTest::slideOfNoObjects);
        s.test(at, goes, "no roots", TermsBoundaryTest::slideWithoutRoots);
        s.test(at, goes, "no roots, objects that tell themselves or each other",
                TermsBoundaryTest::slideOfRingsWithoutRoots);
        String come = "the others come, in the order of their addresses, one directly behind another, from 1 on";
        s.test(at, come, "all objects reached", TermsBoundaryTest::slideOfAll);
        s.test(at, come, "one of four goes", TermsBoundaryTest::slideOfAllButOne);
        s.test(at, come, "one of four stays", TermsBoundaryTest::slideOfOne);
        s.test(at, come, "roots in the other order", TermsBoundaryTest::slideOrderIsOfAddresses);
        s.test(at, come, "over cells of its own", TermsBoundaryTest::slideOverOwnCells);
        s.test(at, come, "again, with one's old cells behind the last", TermsBoundaryTest::slideBesideOldCells);
        String follow = "fields and roots that told one of them tell its new address";
        s.test(at, follow, "fields that tell themselves", TermsBoundaryTest::slideOfSelfTellers);
        s.test(at, follow, "fields that tell each other", TermsBoundaryTest::slideOfEachOther);
        s.test(at, follow, "nothing stays nothing", TermsBoundaryTest::slideLeavesNothing);
        s.test(at, follow, "all sixteen roots", TermsBoundaryTest::slideWithAllRoots);
    }

    private static void termsOfNumbersAndExceptions(Sentences s) {
        String at = "Terms";
        s.test(at, "IDENTITY NUMBERS are given to objects when they are first asked for, 0, 1, 2, ..",
                TermsBoundaryTest::numbersFromFirstOn);
        s.test(at, "and go along with them", TermsBoundaryTest::numbersGoAlong);
        s.test(at, "NoSuchElementException: there is no such object, field, word or root.",
                TermsBoundaryTest::noSuchElements);
        s.test(at, "IllegalArgumentException as told.", TermsBoundaryTest::illegalArguments);
    }

    private static void makesUpToTheLastCall() {
        SlideRow x = new SlideRow();
        for (int call = 1; call <= LAST_CALL; call++) {
            due("make as call " + call, x.make(0, 0), 3 * call - 2);
        }
    }

    private static void slidesUpToTheLastCall() {
        SlideRow x = new SlideRow();
        for (int call = 1; call < LAST_CALL; call++) {
            due("slide as call " + call, x.slide(), 0);
        }
        due("slides, as the last call", x.count(3), LAST_CALL - 1);
    }

    private static void numbersUpToTheLastCall() {
        SlideRow x = new SlideRow();
        int objects = LAST_CALL / 4;
        for (int i = 0; i < objects; i++) {
            due("make", x.make(0, 0), 1 + 3 * i);
        }
        for (int i = 0; i < objects; i++) {
            due("number from the last on", x.number(1 + 3 * (objects - 1 - i)), i);
        }
        for (int i = 0; i < 2 * objects; i++) {
            due("find", x.find(i), i < objects ? 1 + 3 * (objects - 1 - i) : 0);
        }
    }

    private static void spacesUpToTheLastCall() {
        SlideRow x = new SlideRow();
        int before = 2048;
        for (int call = 1; call <= LAST_CALL; call++) {
            int n = call % 2 == 0 ? 16 : 16384;
            due("space as call " + call, x.space(n), before);
            before = n;
        }
    }

    private static void refusedUpToTheLastCall() {
        SlideRow x = new SlideRow();
        for (int call = 1; call <= LAST_CALL - 2; call += 2) {
            REPORT.noSuch("get as call " + call, () -> x.get(1, 0));
            REPORT.illegal("space as call " + (call + 1), () -> x.space(15));
        }
        due("the cells, as the call before the last", x.count(6), 2048);
        due("make, as the last call", x.make(1, 0), 1);
    }

    private static void longestLine() {
        SlideRow x = new SlideRow();
        int objects = 254;
        due("make", x.make(1, 0), 1);
        for (int i = 1; i < objects; i++) {
            int a = x.make(1, 0);
            due("set", x.set(a, 0, a - 4), 0);
        }
        due("root of the line's other end", x.root(0, 4 * objects - 3), 0);
        due("slide of the line", x.slide(), 4 * objects);
        due("root of a piece of it", x.root(0, 9), 4 * objects - 3);
        due("slide of the piece", x.slide(), 12);
    }

    private static void cellsFromFirstToLast() {
        SlideRow x = new SlideRow();
        due("the cells at first", x.count(6), 2048);
        due("an object from the first cell on", x.make(42, 2000), 1);
        due("an object in the last three cells", x.make(0, 0), 2046);
        due("all cells are taken", x.count(1), 2048);
        due("no cell behind the last", x.make(0, 0), 0);
        SlideRow y = new SlideRow();
        due("an object in all cells", y.make(45, 2000), 1);
        due("a word in the last cell", y.put(1, 1999, 7), 0);
        due("the word in the last cell", y.word(1, 1999), 7);
        SlideRow z = new SlideRow();
        due("an object of one cell more than there are", z.make(46, 2000), 0);
    }

    private static void fieldsTellNothingOrAnObject() {
        SlideRow x = Rows.four();
        due("field 0 at first", x.get(1, 0), 0);
        due("the last field at first", x.get(1, 1), 0);
        due("set to the first object, itself", x.set(1, 0, 1), 0);
        due("set to the last object", x.set(1, 1, 16), 0);
        due("field 0", x.get(1, 0), 1);
        due("the last field", x.get(1, 1), 16);
        due("set to nothing", x.set(1, 0, 0), 1);
        due("field 0, nothing again", x.get(1, 0), 0);
        REPORT.noSuch("a cell that is no object's address", () -> x.set(1, 0, 2));
    }

    private static void wordsHoldAnyInt() {
        SlideRow x = Rows.four();
        due("word 0 at first", x.word(7, 0), 0);
        due("the last word at first", x.word(7, 1), 0);
        int before = 0;
        for (int v : new int[] {Integer.MAX_VALUE, Integer.MIN_VALUE, -1, 1, 0}) {
            due("put " + v, x.put(7, 1, v), before);
            due("word " + v, x.word(7, 1), v);
            before = v;
        }
        due("the other word", x.word(7, 0), 0);
    }

    private static void wordsInUsedCells() {
        SlideRow x = new SlideRow();
        x.make(0, 20);
        for (int k = 0; k < 20; k++) {
            x.put(1, k, -1 - k);
        }
        x.slide();
        due("make over cells of one that went", x.make(2, 18), 1);
        allNothing(x, 1, 2, 18);
        x.put(1, 17, 5);
        x.set(1, 1, 1);
        x.space(2048);
        due("make over cells from before space", x.make(1, 19), 1);
        allNothing(x, 1, 1, 19);
    }

    private static void allNothing(SlideRow x, int a, int fields, int words) {
        for (int f = 0; f < fields; f++) {
            due("field " + f + " at first", x.get(a, f), 0);
        }
        for (int k = 0; k < words; k++) {
            due("word " + k + " at first", x.word(a, k), 0);
        }
    }

    private static void sizesFromLeastToMost() {
        int[][] shapes = {{0, 0}, {1, 0}, {0, 1}, {1, 1}, {2000, 0}, {0, 2000}, {1999, 2000}, {2000, 2000}};
        for (int[] shape : shapes) {
            String what = shape[0] + " fields and " + shape[1] + " words: ";
            int size = 3 + shape[0] + shape[1];
            SlideRow x = new SlideRow();
            x.space(16384);
            due(what + "the address", x.make(shape[0], shape[1]), 1);
            due(what + "the cells", x.count(1), size);
            due(what + "the next one's address", x.make(0, 0), 1 + size);
            due(what + "the cells with the next one", x.count(1), size + 3);
        }
    }

    private static void placesInANewRow() {
        SlideRow x = new SlideRow();
        due("the first", x.make(0, 0), 1);
        due("behind the smallest", x.make(1, 0), 4);
        due("behind one with a field", x.make(0, 1), 8);
        due("behind one with a word", x.make(0, 0), 12);
    }

    private static void placesBehindRefusedMakes() {
        SlideRow x = new SlideRow();
        REPORT.illegal("make(2001, 0)", () -> x.make(2001, 0));
        due("no room in an empty row", x.make(2000, 2000), 0);
        due("the first", x.make(0, 2), 1);
        REPORT.illegal("make(0, -1)", () -> x.make(0, -1));
        due("no room behind the first", x.make(2000, 2000), 0);
        due("the second", x.make(0, 0), 6);
    }

    private static void placesAfterASlide() {
        SlideRow x = Rows.four();
        x.root(0, 12);
        x.slide();
        due("behind the one that stayed", x.make(0, 0), 5);
        x.root(0, 0);
        due("without a slide nothing is freed", x.make(0, 0), 8);
        x.slide();
        due("the first when all went", x.make(0, 0), 1);
        due("the second when all went", x.make(0, 0), 4);
    }

    private static void placesAfterSpace() {
        SlideRow x = Rows.four();
        x.space(2048);
        due("the first after space", x.make(0, 0), 1);
        due("the second after space", x.make(0, 0), 4);
        x.space(16);
        due("the first after a smaller space", x.make(0, 0), 1);
    }

    private static void rootsFromFirstToLast() {
        SlideRow x = Rows.four();
        for (int r = 0; r <= 15; r++) {
            due("rooted(" + r + ") at first", x.rooted(r), 0);
        }
        due("root(0, 16)", x.root(0, 16), 0);
        due("root(15, 1)", x.root(15, 1), 0);
        due("rooted(0)", x.rooted(0), 16);
        due("rooted(15)", x.rooted(15), 1);
        for (int r = 1; r <= 14; r++) {
            due("rooted(" + r + ") stays nothing", x.rooted(r), 0);
        }
        due("root(15, 0)", x.root(15, 0), 1);
        due("rooted(15), nothing again", x.rooted(15), 0);
    }

    private static void rootsBeyond() {
        SlideRow x = Rows.four();
        for (int r : new int[] {-1, 16, Integer.MIN_VALUE, Integer.MAX_VALUE}) {
            REPORT.noSuch("root(" + r + ", 1)", () -> x.root(r, 1));
            REPORT.noSuch("root(" + r + ", 0)", () -> x.root(r, 0));
            REPORT.noSuch("rooted(" + r + ")", () -> x.rooted(r));
        }
        due("nothing is reached by them", x.count(2), 0);
    }

    private static void noneReached() {
        due("reached in an empty row", new SlideRow().count(2), 0);
        SlideRow x = Rows.four();
        x.set(1, 0, 1);
        x.set(12, 0, 16);
        x.set(16, 0, 12);
        due("reached without roots", x.count(2), 0);
        x.root(4, 7);
        x.root(4, 0);
        due("reached when the root is nothing again", x.count(2), 0);
        x.set(1, 1, 12);
        x.number(1);
        due("reached without roots, with a number given", x.count(2), 0);
    }

    private static void allReached() {
        SlideRow x = Rows.four();
        x.root(15, 16);
        due("the one in the last root", x.count(2), 1);
        x.set(16, 0, 12);
        due("and the one in its field", x.count(2), 2);
        x.set(12, 0, 1);
        x.set(1, 1, 7);
        due("all, each in a field of the one before", x.count(2), 4);
        due("and all of them stay", x.slide(), 20);
        x.set(1, 1, 0);
        due("all but the one that no field tells now", x.count(2), 3);
    }

    private static void reachedByManyWays() {
        SlideRow x = Rows.four();
        x.root(0, 1);
        x.root(1, 1);
        x.root(15, 12);
        x.set(1, 0, 12);
        x.set(1, 1, 12);
        x.set(12, 0, 1);
        due("each is reached once", x.count(2), 2);
        due("asked again", x.count(2), 2);
        x.root(0, 0);
        x.root(1, 0);
        due("by the last root alone", x.count(2), 2);
    }

    private static void notReachedByWords() {
        SlideRow x = Rows.four();
        x.root(0, 7);
        x.put(7, 0, 12);
        x.put(7, 1, 16);
        due("words that look like addresses", x.count(2), 1);
        due("only the one in the root stays", x.slide(), 5);
        due("word 0 is as before", x.word(1, 0), 12);
        due("word 1 is as before", x.word(1, 1), 16);
        SlideRow y = new SlideRow();
        y.make(0, 4);
        y.make(1, 0);
        y.root(0, 1);
        y.put(1, 0, 4096);
        y.put(1, 3, 8);
        due("words that look like an object with a field", y.count(2), 1);
    }

    private static void slideOfNoObjects() {
        SlideRow x = new SlideRow();
        due("slide of a new row", x.slide(), 0);
        due("slide again", x.slide(), 0);
        due("no objects", x.count(0), 0);
        due("none went", x.count(4), 0);
        due("two slides", x.count(3), 2);
        due("the cells", x.count(6), 2048);
        due("the first is made at 1", x.make(0, 0), 1);
    }

    private static void slideWithoutRoots() {
        SlideRow x = Rows.four();
        due("slide", x.slide(), 0);
        due("no objects", x.count(0), 0);
        due("all went", x.count(4), 4);
        due("none is the first", x.next(0), 0);
        due("slide when all went", x.slide(), 0);
        due("none can go twice", x.count(4), 4);
    }

    private static void slideOfRingsWithoutRoots() {
        SlideRow x = Rows.four();
        x.set(1, 0, 1);
        x.set(1, 1, 12);
        x.set(12, 0, 16);
        x.set(16, 0, 12);
        due("slide", x.slide(), 0);
        due("all went", x.count(4), 4);
        SlideRow y = Rows.four();
        y.set(12, 0, 16);
        y.set(16, 0, 12);
        y.root(0, 7);
        due("a ring goes from behind one that stays", y.slide(), 5);
        due("three went", y.count(4), 3);
    }

    private static void slideOfAll() {
        SlideRow x = Rows.filled();
        x.root(3, 1);
        due("all are reached", x.count(2), 4);
        String before = View.of(x).replace("count 3 = 0", "count 3 = 1");
        due("slide", x.slide(), 20);
        REPORT.due("only the slide is counted, all else is as before", View.of(x), before);
        due("none went", x.count(4), 0);
    }

    private static void slideOfAllButOne() {
        int[] at = {1, 7, 12, 16};
        int[] size = {6, 5, 4, 5};
        for (int out = 0; out < at.length; out++) {
            SlideRow x = Rows.four();
            for (int i = 0; i < at.length; i++) {
                due("root", x.root(i, i == out ? 0 : at[i]), 0);
            }
            String what = "without " + at[out] + ": ";
            due(what + "slide", x.slide(), 20 - size[out]);
            for (int i = 0; i < at.length; i++) {
                int place = i < out ? at[i] : at[i] - size[out];
                due(what + "root of " + at[i], x.rooted(i), i == out ? 0 : place);
            }
            due(what + "one went", x.count(4), 1);
        }
    }

    private static void slideOfOne() {
        int[] at = {1, 7, 12, 16};
        int[] size = {6, 5, 4, 5};
        for (int in = 0; in < at.length; in++) {
            SlideRow x = Rows.four();
            x.root(15, at[in]);
            String what = "only " + at[in] + ": ";
            due(what + "slide", x.slide(), size[in]);
            due(what + "its root", x.rooted(15), 1);
            due(what + "the first", x.next(0), 1);
            due(what + "none behind it", x.next(1), 0);
            due(what + "three went", x.count(4), 3);
        }
    }

    private static void slideOrderIsOfAddresses() {
        SlideRow x = Rows.four();
        x.root(0, 16);
        x.set(16, 0, 12);
        x.root(1, 7);
        due("slide", x.slide(), 14);
        due("16, in the first root, comes last", x.rooted(0), 10);
        due("12, in a field, comes second", x.get(10, 0), 6);
        due("7, in the second root, comes first", x.rooted(1), 1);
        due("directly behind the first", x.next(1), 6);
        due("directly behind the second", x.next(6), 10);
    }

    private static void slideOverOwnCells() {
        SlideRow x = new SlideRow();
        x.make(0, 0);
        x.make(1, 40);
        for (int k = 0; k < 40; k++) {
            x.put(4, k, 100 + k);
        }
        x.set(4, 0, 4);
        x.root(0, 4);
        due("slide by less than its own cells", x.slide(), 44);
        due("its field", x.get(1, 0), 1);
        for (int k = 0; k < 40; k++) {
            due("its word " + k, x.word(1, k), 100 + k);
        }
    }

    private static void slideBesideOldCells() {
        SlideRow x = new SlideRow();
        x.make(1, 1);
        x.make(1, 1);
        x.root(0, 6);
        due("slide to just in front of the old cells", x.slide(), 5);
        x.put(1, 0, 8);
        x.set(1, 0, 1);
        due("slide again", x.slide(), 5);
        due("its word, not that in the old cells", x.word(1, 0), 8);
        due("its field, not that in the old cells", x.get(1, 0), 1);
    }

    private static void slideOfSelfTellers() {
        SlideRow x = Rows.four();
        x.set(12, 0, 12);
        x.set(16, 0, 16);
        x.root(0, 16);
        x.root(1, 12);
        due("slide", x.slide(), 9);
        due("the first tells itself", x.get(1, 0), 1);
        due("the second tells itself", x.get(5, 0), 5);
        due("the second's root", x.rooted(0), 5);
        due("the first's root", x.rooted(1), 1);
        due("slide again", x.slide(), 9);
        due("the second still tells itself", x.get(5, 0), 5);
    }

    private static void slideOfEachOther() {
        SlideRow x = Rows.four();
        x.set(12, 0, 16);
        x.set(16, 0, 12);
        x.root(8, 16);
        due("slide", x.slide(), 9);
        due("the lower one tells the higher", x.get(1, 0), 5);
        due("the higher one tells the lower", x.get(5, 0), 1);
        due("the root tells the higher", x.rooted(8), 5);
    }

    private static void slideLeavesNothing() {
        SlideRow x = Rows.four();
        x.root(7, 12);
        due("slide", x.slide(), 4);
        due("the field tells nothing", x.get(1, 0), 0);
        for (int r = 0; r <= 15; r++) {
            due("rooted(" + r + ")", x.rooted(r), r == 7 ? 1 : 0);
        }
    }

    private static void slideWithAllRoots() {
        SlideRow x = Rows.four();
        for (int r = 0; r <= 15; r++) {
            x.root(r, r % 2 == 0 ? 16 : 7);
        }
        due("slide", x.slide(), 10);
        for (int r = 0; r <= 15; r++) {
            due("rooted(" + r + ")", x.rooted(r), r % 2 == 0 ? 6 : 1);
        }
    }

    private static void numbersFromFirstOn() {
        SlideRow x = Rows.four();
        due("none given at first", x.count(5), 0);
        due("the first asked for", x.number(16), 0);
        due("the second asked for", x.number(1), 1);
        due("asked for again", x.number(16), 0);
        due("the third asked for", x.number(7), 2);
        due("three given", x.count(5), 3);
        x.slide();
        due("make", x.make(0, 0), 1);
        due("one of those that went is not given again", x.number(1), 3);
    }

    private static void numbersGoAlong() {
        SlideRow x = Rows.four();
        x.number(1);
        x.number(16);
        x.number(12);
        x.root(0, 16);
        x.root(1, 12);
        x.slide();
        due("number of 12, at 1 now", x.number(1), 2);
        due("number of 16, at 5 now", x.number(5), 1);
        due("find of 12", x.find(2), 1);
        due("find of 16", x.find(1), 5);
        due("find of 1, that went", x.find(0), 0);
        due("still three given", x.count(5), 3);
    }

    private static void noSuchElements() {
        SlideRow x = Rows.four();
        REPORT.noSuch("no such object", () -> x.number(2));
        REPORT.noSuch("no such object, nor a field of it", () -> x.get(2, -1));
        REPORT.noSuch("no such field", () -> x.get(1, 2));
        REPORT.noSuch("no such word", () -> x.word(1, 1));
        REPORT.noSuch("no such root", () -> x.rooted(16));
        due("the last object", x.number(16), 0);
        due("the last field", x.get(1, 1), 0);
        due("the last word", x.word(7, 1), 0);
        due("the last root", x.rooted(15), 0);
        due("no such number is no exception", x.find(1), 0);
    }

    private static void illegalArguments() {
        SlideRow x = Rows.four();
        REPORT.illegal("n", () -> x.space(15));
        REPORT.illegal("fields", () -> x.make(2001, 0));
        REPORT.illegal("words", () -> x.make(0, 2001));
        REPORT.illegal("what", () -> x.count(7));
        due("no room is no exception", x.make(2000, 2000), 0);
    }
}
