import java.util.NoSuchElementException;

/** Collects what is not as due, and ends a test's program with exit code 1 if there was anything. */
final class Report {
    /** A call whose answer, or whose exception, is looked at. */
    interface Call {
        int run();
    }

    private int wrong = 0;

    void due(String what, long got, long want) {
        if (got != want) {
            fault(what + " answered " + got + ", due is " + want);
        }
    }

    void due(String what, String got, String want) {
        if (!got.equals(want)) {
            fault(what + " answered " + got + ", due is " + want);
        }
    }

    /** What a call answers, or the name of the exception that it throws. */
    static String answer(Call call) {
        try {
            return Integer.toString(call.run());
        } catch (RuntimeException e) {
            return "throws " + e.getClass().getName();
        }
    }

    void illegal(String what, Call call) {
        due(what, answer(call), "throws " + IllegalArgumentException.class.getName());
    }

    void noSuch(String what, Call call) {
        due(what, answer(call), "throws " + NoSuchElementException.class.getName());
    }

    int faults() {
        return wrong;
    }

    void fault(String text) {
        wrong++;
        if (wrong <= 50) {
            System.out.println(text);
        }
    }

    void end() {
        System.out.println(wrong == 0 ? "all as due" : wrong + " not as due");
        if (wrong != 0) {
            System.exit(1);
        }
    }
}
