import java.util.ArrayList;
import java.util.List;
import java.util.NoSuchElementException;

/** All that can be seen of a SlideRow by calls that change nothing, as a text. */
final class View {
    // A row that tells more objects than the cells allow must not hold a test up for ever.
    private static final int MOST_OBJECTS = 16384 / 3;

    private View() {
    }

    static String of(SlideRow x) {
        StringBuilder text = new StringBuilder();
        for (int what = 0; what <= 6; what++) {
            text.append("count ").append(what).append(" = ").append(x.count(what)).append("; ");
        }
        for (int r = 0; r < 16; r++) {
            text.append("root ").append(r).append(" = ").append(x.rooted(r)).append("; ");
        }
        for (int a : addresses(x)) {
            text.append("object ").append(a).append(':');
            appendFields(text, x, a);
            appendWords(text, x, a);
            text.append("; ");
        }
        for (int n = -1; n <= x.count(5); n++) {
            text.append("number ").append(n).append(" = ").append(x.find(n)).append("; ");
        }
        return text.toString();
    }

    static List<Integer> addresses(SlideRow x) {
        List<Integer> found = new ArrayList<>();
        for (int a = x.next(0); a != 0 && found.size() <= MOST_OBJECTS; a = x.next(a)) {
            found.add(a);
        }
        return found;
    }

    private static void appendFields(StringBuilder text, SlideRow x, int a) {
        try {
            for (int f = 0; f <= 2000; f++) {
                text.append(" f").append(x.get(a, f));
            }
        } catch (NoSuchElementException e) {
            text.append(" |");
        }
    }

    private static void appendWords(StringBuilder text, SlideRow x, int a) {
        try {
            for (int k = 0; k <= 2000; k++) {
                text.append(" w").append(x.word(a, k));
            }
        } catch (NoSuchElementException e) {
            text.append(" |");
        }
    }
}
