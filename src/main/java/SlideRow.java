import java.util.Arrays;
import java.util.NoSuchElementException;

/**
 * Objects in a row of cells, made one behind the other; when that is asked for, those that can be
 * reached are slid together to the lowest addresses, in their order, and all that refers to them
 * follows.
 */
public final class SlideRow {
    private static final int CELLS_AT_FIRST = 2048;
    private static final int LEAST_CELLS = 16;
    private static final int MOST_CELLS = 16384;
    private static final int MOST_PARTS = 2000;
    private static final int ROOTS = 16;

    private static final int NOTHING = 0;
    private static final int FIRST = 1;

    // An object's first three cells are its header; its fields and then its words follow.
    private static final int HEADER = 3;
    private static final int SHAPE = 0;
    private static final int NUMBER = 1;
    private static final int LINK = 2;

    // The shape holds both lengths, so that the header has a cell left for the link.
    private static final int SHAPE_SHIFT = 12;
    private static final int SHAPE_MASK = (1 << SHAPE_SHIFT) - 1;

    // What a link holds when it is no address.
    private static final int UNREACHED = 0;
    private static final int CHAIN_END = -1;

    private final int[] roots;
    // An address is an index here, so the element 0 stays unused.
    private int[] cells;
    private int limit;
    private int used;
    private int objects;
    private int slides;
    private int gone;
    private int given;

    // The chain of reached objects, threaded through their links while one call lasts.
    private int firstReached;
    private int lastReached;
    private int reached;

    public SlideRow() {
        roots = new int[ROOTS];
        cells = new int[CELLS_AT_FIRST + 1];
        limit = CELLS_AT_FIRST;
    }

    public int space(int n) throws IllegalArgumentException {
        if (n < LEAST_CELLS || n > MOST_CELLS) {
            throw new IllegalArgumentException("n is not 16 .. 16384");
        }
        int before = limit;
        if (n >= cells.length) {
            // The largest row at once: no later call then needs another one.
            cells = new int[MOST_CELLS + 1];
        }
        limit = n;
        forgetAll();
        return before;
    }

    public int make(int fields, int words) throws IllegalArgumentException {
        if (!isPartCount(fields) || !isPartCount(words)) {
            throw new IllegalArgumentException("fields or words is not 0 .. 2000");
        }
        int size = HEADER + fields + words;
        if (size > limit - used) {
            return NOTHING;
        }
        int a = used + FIRST;
        clearCells(a, size);
        write(a + SHAPE, fields << SHAPE_SHIFT | words);
        used += size;
        objects++;
        return a;
    }

    public int set(int a, int field, int b) throws NoSuchElementException {
        int cell = fieldCell(a, field);
        needObjectOrNothing(b);
        return replace(cell, b);
    }

    public int get(int a, int field) throws NoSuchElementException {
        return read(fieldCell(a, field));
    }

    public int put(int a, int k, int v) throws NoSuchElementException {
        return replace(wordCell(a, k), v);
    }

    public int word(int a, int k) throws NoSuchElementException {
        return read(wordCell(a, k));
    }

    public int root(int root, int a) throws NoSuchElementException {
        needRoot(root);
        needObjectOrNothing(a);
        int before = roots[root];
        roots[root] = a;
        return before;
    }

    public int rooted(int root) throws NoSuchElementException {
        needRoot(root);
        return roots[root];
    }

    public int slide() {
        chainReached();
        int taken = choosePlaces();
        redirectRoots();
        redirectFields();
        moveReached();
        slides++;
        gone += objects - reached;
        objects = reached;
        used = taken;
        return used;
    }

    public int number(int a) throws NoSuchElementException {
        needObject(a);
        if (read(a + NUMBER) == 0) {
            given++;
            write(a + NUMBER, given);
        }
        return read(a + NUMBER) - 1;
    }

    public int find(int number) {
        if (number < 0 || number >= given) {
            return NOTHING;
        }
        int at = FIRST;
        for (int i = 0; i < objects; i++) {
            if (read(at + NUMBER) - 1 == number) {
                return at;
            }
            at += sizeOf(at);
        }
        return NOTHING;
    }

    public int next(int a) throws NoSuchElementException {
        needObjectOrNothing(a);
        int behind = a == NOTHING ? FIRST : a + sizeOf(a);
        return behind <= used ? behind : NOTHING;
    }

    public int count(int what) throws IllegalArgumentException {
        switch (what) {
            case 0:
                return objects;
            case 1:
                return used;
            case 2:
                chainReached();
                return reached;
            case 3:
                return slides;
            case 4:
                return gone;
            case 5:
                return given;
            case 6:
                return limit;
            default:
                throw new IllegalArgumentException("what is not 0 .. 6");
        }
    }

    private void forgetAll() {
        Arrays.fill(roots, NOTHING);
        used = 0;
        objects = 0;
        slides = 0;
        gone = 0;
        given = 0;
    }

    private static boolean isPartCount(int parts) {
        return parts >= 0 && parts <= MOST_PARTS;
    }

    private void needRoot(int root) {
        if (root < 0 || root >= roots.length) {
            throw new NoSuchElementException("no such root");
        }
    }

    // Words can hold any int, so only a walk from the first object tells where objects begin.
    private boolean isObject(int a) {
        int at = FIRST;
        for (int i = 0; i < objects && at <= a; i++) {
            if (at == a) {
                return true;
            }
            at += sizeOf(at);
        }
        return false;
    }

    private void needObject(int a) {
        if (!isObject(a)) {
            throw new NoSuchElementException("no such object");
        }
    }

    private void needObjectOrNothing(int a) {
        if (a != NOTHING) {
            needObject(a);
        }
    }

    private int fieldCell(int a, int field) {
        needObject(a);
        if (field < 0 || field >= fieldsOf(a)) {
            throw new NoSuchElementException("no such field");
        }
        return a + HEADER + field;
    }

    private int wordCell(int a, int k) {
        needObject(a);
        if (k < 0 || k >= wordsOf(a)) {
            throw new NoSuchElementException("no such word");
        }
        return a + HEADER + fieldsOf(a) + k;
    }

    private int fieldsOf(int a) {
        return read(a + SHAPE) >> SHAPE_SHIFT;
    }

    private int wordsOf(int a) {
        return read(a + SHAPE) & SHAPE_MASK;
    }

    private int sizeOf(int a) {
        int shape = read(a + SHAPE);
        return HEADER + (shape >> SHAPE_SHIFT) + (shape & SHAPE_MASK);
    }

    // Every use of a single cell goes through read and write, so that each index is tested.
    private int read(int cell) {
        return cell >= FIRST && cell < cells.length ? cells[cell] : 0;
    }

    private void write(int cell, int value) {
        if (cell >= FIRST && cell < cells.length) {
            cells[cell] = value;
        }
    }

    private int replace(int cell, int value) {
        int before = read(cell);
        write(cell, value);
        return before;
    }

    // Cells behind the last object keep what went objects left in them.
    private void clearCells(int from, int size) {
        for (int i = 0; i < size; i++) {
            write(from + i, 0);
        }
    }

    private void moveCells(int from, int to, int size) {
        if (to >= FIRST && to < from && size > 0 && size <= cells.length - from) {
            System.arraycopy(cells, from, cells, to, size);
        }
    }

    // A chain in place of recursion: objects may tell one another in a line as long as the row.
    private void chainReached() {
        clearLinks();
        firstReached = NOTHING;
        lastReached = NOTHING;
        reached = 0;
        for (int i = 0; i < roots.length; i++) {
            reach(roots[i]);
        }
        int at = firstReached;
        for (int i = 0; i < objects && at > NOTHING; i++) {
            reachFieldsOf(at);
            at = read(at + LINK);
        }
    }

    private void clearLinks() {
        int at = FIRST;
        for (int i = 0; i < objects; i++) {
            write(at + LINK, UNREACHED);
            at += sizeOf(at);
        }
    }

    private void reachFieldsOf(int a) {
        int fields = fieldsOf(a);
        for (int i = 0; i < fields; i++) {
            reach(read(a + HEADER + i));
        }
    }

    private void reach(int a) {
        if (a == NOTHING || read(a + LINK) != UNREACHED) {
            return;
        }
        write(a + LINK, CHAIN_END);
        if (firstReached == NOTHING) {
            firstReached = a;
        } else {
            write(lastReached + LINK, a);
        }
        lastReached = a;
        reached++;
    }

    // From here on a reached object's link is its new address.
    private int choosePlaces() {
        int taken = 0;
        int at = FIRST;
        for (int i = 0; i < objects; i++) {
            int size = sizeOf(at);
            if (read(at + LINK) != UNREACHED) {
                write(at + LINK, FIRST + taken);
                taken += size;
            }
            at += size;
        }
        return taken;
    }

    private int placeOf(int a) {
        return a == NOTHING ? NOTHING : read(a + LINK);
    }

    private void redirectRoots() {
        for (int i = 0; i < roots.length; i++) {
            roots[i] = placeOf(roots[i]);
        }
    }

    // All fields before the first move: a move may cover a link that another field still needs.
    private void redirectFields() {
        int at = FIRST;
        for (int i = 0; i < objects; i++) {
            if (read(at + LINK) != UNREACHED) {
                redirectFieldsOf(at);
            }
            at += sizeOf(at);
        }
    }

    private void redirectFieldsOf(int a) {
        int fields = fieldsOf(a);
        for (int i = 0; i < fields; i++) {
            int cell = a + HEADER + i;
            write(cell, placeOf(read(cell)));
        }
    }

    // In the order of addresses a move covers only cells of objects that were dealt with before.
    private void moveReached() {
        int at = FIRST;
        for (int i = 0; i < objects; i++) {
            int size = sizeOf(at);
            int place = read(at + LINK);
            if (place != UNREACHED) {
                moveCells(at, place, size);
            }
            at += size;
        }
    }
}
