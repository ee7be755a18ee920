/** Rows that several tests begin with. */
final class Rows {
    private Rows() {
    }

    /** Objects at 1 (2 fields, 1 word), 7 (2 words), 12 (1 field), 16 (1 field, 1 word); 21 follows. */
    static SlideRow four() {
        SlideRow x = new SlideRow();
        x.make(2, 1);
        x.make(0, 2);
        x.make(1, 0);
        x.make(1, 1);
        return x;
    }

    /** The four with something in every field, word and count; the words look like headers. */
    static SlideRow filled() {
        SlideRow x = four();
        x.set(1, 0, 12);
        x.set(1, 1, 7);
        x.set(12, 0, 16);
        x.set(16, 0, 16);
        x.put(1, 0, 1);
        x.put(7, 0, 1);
        x.put(7, 1, 4097);
        x.put(16, 0, 65537);
        x.root(0, 12);
        x.root(15, 7);
        x.number(16);
        x.number(7);
        return x;
    }
}
