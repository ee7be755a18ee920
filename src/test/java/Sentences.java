/** Runs tests of single sentences of the document, and tells of each sentence whether it holds. */
final class Sentences {
    private final Report report;
    private final Document document = new Document();

    Sentences(Report report) {
        this.report = report;
    }

    /** The words are quoted from the document's part under that heading. */
    void test(String heading, String words, Runnable test) {
        test(heading, words, "", test);
    }

    /** For a sentence with tests of several cases: which of them this one is. */
    void test(String heading, String words, String which, Runnable test) {
        int before = report.faults();
        if (!document.says(heading, words)) {
            report.fault("under \"" + heading + "\" the document does not say: " + words);
        }
        try {
            test.run();
        } catch (RuntimeException e) {
            report.fault("the test ended with " + e);
        }
        String verdict = report.faults() == before ? "holds: " : "DOES NOT HOLD: ";
        String part = which.isEmpty() ? "" : " (" + which + ")";
        System.out.println(verdict + heading + ": \"" + words + "\"" + part);
    }
}
