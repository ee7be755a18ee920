import java.lang.reflect.Constructor;
import java.lang.reflect.Field;
import java.lang.reflect.Method;
import java.lang.reflect.Modifier;
import java.util.Set;
import java.util.TreeSet;

/** The public face: what the document lists, and nothing else that is not private. */
public final class FaceTest {
    private static final String IAE = " throws java.lang.IllegalArgumentException";
    private static final String NSE = " throws java.util.NoSuchElementException";
    private static final String[] FACE = {
        "public int SlideRow.space(int)" + IAE,
        "public int SlideRow.make(int,int)" + IAE,
        "public int SlideRow.set(int,int,int)" + NSE,
        "public int SlideRow.get(int,int)" + NSE,
        "public int SlideRow.put(int,int,int)" + NSE,
        "public int SlideRow.word(int,int)" + NSE,
        "public int SlideRow.root(int,int)" + NSE,
        "public int SlideRow.rooted(int)" + NSE,
        "public int SlideRow.slide()",
        "public int SlideRow.number(int)" + NSE,
        "public int SlideRow.find(int)",
        "public int SlideRow.next(int)" + NSE,
        "public int SlideRow.count(int)" + IAE,
    };

    public static void main(String[] args) {
        Report report = new Report();
        report.due("the class's modifiers", Modifier.toString(SlideRow.class.getModifiers()), "public final");
        Set<String> seen = new TreeSet<>();
        Set<String> publicNames = new TreeSet<>();
        for (Method m : SlideRow.class.getDeclaredMethods()) {
            if (!Modifier.isPrivate(m.getModifiers())) {
                seen.add(m.toString());
                publicNames.add(m.getName());
            }
        }
        report.due("the methods", seen.toString(), new TreeSet<>(Set.of(FACE)).toString());
        for (Method m : SlideRow.class.getDeclaredMethods()) {
            if (Modifier.isPrivate(m.getModifiers()) && publicNames.contains(m.getName())) {
                report.fault("a private method bears a public one's name: " + m);
            }
        }
        StringBuilder constructors = new StringBuilder();
        for (Constructor<?> c : SlideRow.class.getDeclaredConstructors()) {
            constructors.append(c);
        }
        report.due("the constructors", constructors.toString(), "public SlideRow()");
        for (Field f : SlideRow.class.getDeclaredFields()) {
            if (!Modifier.isPrivate(f.getModifiers())) {
                report.fault("a field that is not private: " + f);
            }
        }
        report.end();
    }
}
