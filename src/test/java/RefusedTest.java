import java.util.NoSuchElementException;
import java.util.function.Supplier;

/** "Such a call changes nothing": for each method that can throw, beside a twin without that call. */
public final class RefusedTest {
    private static final Report REPORT = new Report();
    private static final String NO_SUCH = "throws " + NoSuchElementException.class.getName();
    private static final String ILLEGAL = "throws " + IllegalArgumentException.class.getName();
    private static final int LEAST = Integer.MIN_VALUE;
    private static final int MOST = Integer.MAX_VALUE;

    /** A call with an address; holder is an object with a field, or 0 if there is none. */
    private interface AddressCall {
        int on(SlideRow x, int holder, int address);
    }

    private interface NumberCall {
        int on(SlideRow x, int number);
    }

    /** Addresses at which a row has no object. */
    private static final class Place {
        final String name;
        final Supplier<SlideRow> row;
        final int holder;
        final int[] addresses;

        Place(String name, Supplier<SlideRow> row, int holder, int... addresses) {
            this.name = name;
            this.row = row;
            this.holder = holder;
            this.addresses = addresses;
        }
    }

    private static final Place[] PLACES = {
        new Place("inside an object", Rows::filled, 1, 2, 3, 4, 5, 6, 8, 9, 10, 11, 13, 14, 15, 17, 18, 19, 20),
        new Place("inside an object of a full row", RefusedTest::full, 1, 2, 9, 11, 14, 15, 16),
        new Place("in front of the first", Rows::filled, 1, -1, -2, -3, LEAST, LEAST + 1),
        new Place("behind the last", Rows::filled, 1, 21, 22, 24, 2046, 2048, 2049, 16384, 16385, MOST - 2, MOST),
        new Place("behind the last of a full row", RefusedTest::full, 1, 17, 18, 2048, 16384),
        new Place("where there are no objects", SlideRow::new, 0, -1, 1, 2, 4, 2048, 2049),
        new Place("where one stood before a slide", RefusedTest::slid, 1, 16, 22),
        new Place("where one stood before all went by a slide", RefusedTest::slidAway, 0, 1, 7, 12, 16),
        new Place("where one stood before space", RefusedTest::spaced, 0, 1, 7, 12, 16),
        new Place("where one stood before space, inside an object", RefusedTest::spacedAndMade, 1, 7, 12, 16),
    };

    public static void main(String[] args) {
        Sentences sentences = new Sentences(REPORT);
        wrongAddresses(sentences);
        zeros(sentences);
        wrongParts(sentences);
        wrongRoots(sentences);
        wrongArguments(sentences);
        REPORT.end();
    }

    /** 16 stands inside the object at 13 now, 22 behind the last; 1, 7 and 13 are objects again. */
    private static SlideRow slid() {
        SlideRow x = new SlideRow();
        x.make(0, 3);
        x.make(2, 1);
        x.make(0, 0);
        x.make(1, 2);
        x.make(0, 1);
        x.set(7, 0, 16);
        x.set(7, 1, 22);
        x.set(16, 0, 7);
        x.put(22, 0, 4097);
        x.number(22);
        x.number(1);
        x.root(3, 7);
        x.slide();
        return x;
    }

    private static SlideRow slidAway() {
        SlideRow x = Rows.filled();
        x.root(0, 0);
        x.root(15, 0);
        x.slide();
        return x;
    }

    private static SlideRow spaced() {
        SlideRow x = Rows.filled();
        x.space(2048);
        return x;
    }

    /** One object in the cells 1 to 18, with words that look like headers at 7, 12 and 16. */
    private static SlideRow spacedAndMade() {
        SlideRow x = Rows.filled();
        x.space(64);
        x.make(3, 12);
        x.put(1, 0, 4097);
        x.put(1, 5, 1);
        x.put(1, 9, 4096);
        x.set(1, 2, 1);
        x.root(7, 1);
        x.number(1);
        return x;
    }

    /** Objects at 1 and 10 that take all of 16 cells. */
    private static SlideRow full() {
        SlideRow x = new SlideRow();
        x.space(16);
        x.make(1, 5);
        x.make(1, 3);
        x.set(1, 0, 10);
        x.put(10, 2, -1);
        x.root(2, 1);
        x.number(10);
        return x;
    }

    private static void refused(String what, String exception, Supplier<SlideRow> row, NumberCall call, int number) {
        SlideRow x = row.get();
        String before = View.of(x);
        REPORT.due(what, Report.answer(() -> call.on(x, number)), exception);
        REPORT.due(what + " changes nothing: the row", View.of(x), before);
        REPORT.due(what + " changes nothing: what later calls tell", later(x), later(row.get()));
    }

    /** Calls that change the row and whose answers tell of what a look at it does not show. */
    private static String later(SlideRow x) {
        StringBuilder text = new StringBuilder();
        for (int a : View.addresses(x)) {
            text.append("number ").append(x.number(a)).append("; ");
        }
        int made = x.make(1, 1);
        text.append("make ").append(made).append("; ");
        text.append("root ").append(x.root(1, made)).append("; ");
        text.append("slide ").append(x.slide()).append("; ");
        return text.append(View.of(x)).toString();
    }

    private static void nothing(Sentences s, String which, Runnable test) {
        s.test("Terms", "Such a call changes nothing.", which, test);
    }

    private static void wrongAddresses(Sentences s) {
        for (Place place : PLACES) {
            address(s, place, "set of a", (x, holder, a) -> x.set(a, 0, holder));
            address(s, place, "get", (x, holder, a) -> x.get(a, 0));
            address(s, place, "put", (x, holder, a) -> x.put(a, 0, -7));
            address(s, place, "word", (x, holder, a) -> x.word(a, 0));
            address(s, place, "root 0", (x, holder, a) -> x.root(0, a));
            address(s, place, "root 15", (x, holder, a) -> x.root(15, a));
            address(s, place, "number", (x, holder, a) -> x.number(a));
            address(s, place, "next", (x, holder, a) -> x.next(a));
            if (place.holder != 0) {
                address(s, place, "set to b", (x, holder, a) -> x.set(holder, 0, a));
            }
        }
    }

    private static void address(Sentences s, Place place, String name, AddressCall call) {
        nothing(s, name + ", " + place.name, () -> {
            for (int a : place.addresses) {
                refused(name + " at " + a, NO_SUCH, place.row, (x, n) -> call.on(x, place.holder, n), a);
            }
        });
    }

    /** 0 is in front of the first too, and only some calls take it. */
    private static void zeros(Sentences s) {
        zero(s, "set of a", (x, a) -> x.set(a, 0, 1));
        zero(s, "set of a to nothing", (x, a) -> x.set(a, 0, 0));
        zero(s, "get", (x, a) -> x.get(a, 0));
        zero(s, "put", (x, a) -> x.put(a, 0, -7));
        zero(s, "word", (x, a) -> x.word(a, 0));
        zero(s, "number", (x, a) -> x.number(a));
    }

    private static void zero(Sentences s, String name, NumberCall call) {
        nothing(s, name + ", at 0", () -> refused(name + " at 0", NO_SUCH, Rows::filled, call, 0));
    }

    private static void numbers(Sentences s, String which, String exception, NumberCall call, int... wrong) {
        nothing(s, which, () -> {
            for (int n : wrong) {
                refused(which + ": " + n, exception, Rows::filled, call, n);
            }
        });
    }

    private static void wrongParts(Sentences s) {
        numbers(s, "set, no such field", NO_SUCH, (x, f) -> x.set(1, f, 16), -1, 2, 3, LEAST, MOST);
        numbers(s, "set to nothing, no such field", NO_SUCH, (x, f) -> x.set(1, f, 0), -1, 2, 3, LEAST, MOST);
        numbers(s, "set, no fields", NO_SUCH, (x, f) -> x.set(7, f, 16), -1, 0, 1);
        numbers(s, "set, no such field and b", NO_SUCH, (x, f) -> x.set(1, f, 2), -1, 2);
        numbers(s, "get, no such field", NO_SUCH, (x, f) -> x.get(1, f), -1, 2, 3, LEAST, MOST);
        numbers(s, "get, no fields", NO_SUCH, (x, f) -> x.get(7, f), -1, 0, 1);
        numbers(s, "put, no such word", NO_SUCH, (x, k) -> x.put(7, k, -7), -1, 2, 3, LEAST, MOST);
        numbers(s, "put, no words", NO_SUCH, (x, k) -> x.put(12, k, -7), -1, 0, 1);
        numbers(s, "word, no such word", NO_SUCH, (x, k) -> x.word(7, k), -1, 2, 3, LEAST, MOST);
        numbers(s, "word, no words", NO_SUCH, (x, k) -> x.word(12, k), -1, 0, 1);
    }

    private static void wrongRoots(Sentences s) {
        numbers(s, "root, no such root", NO_SUCH, (x, r) -> x.root(r, 1), -1, 16, 17, LEAST, MOST);
        numbers(s, "root to nothing, no such root", NO_SUCH, (x, r) -> x.root(r, 0), -1, 16, 17, LEAST, MOST);
        numbers(s, "root, no such root and object", NO_SUCH, (x, r) -> x.root(r, 2), -1, 16);
        numbers(s, "rooted, no such root", NO_SUCH, (x, r) -> x.rooted(r), -1, 16, 17, LEAST, MOST);
    }

    private static void wrongArguments(Sentences s) {
        numbers(s, "space", ILLEGAL, (x, n) -> x.space(n), 15, 0, -1, -16, LEAST, 16385, MOST);
        numbers(s, "make, fields", ILLEGAL, (x, n) -> x.make(n, 1), -1, -4, 2001, LEAST, MOST);
        numbers(s, "make, words", ILLEGAL, (x, n) -> x.make(1, n), -1, -4, 2001, LEAST, MOST);
        numbers(s, "make, both", ILLEGAL, (x, n) -> x.make(n, n), -1, 2001, LEAST, MOST);
        numbers(s, "count", ILLEGAL, (x, n) -> x.count(n), -1, 7, LEAST, MOST);
    }
}
