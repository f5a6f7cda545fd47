/**
 * Runs the tests of single sentences, each on a store of its own, and sees that what they quote
 * stands in the document and that nothing in the document stays without a test.
 */
final class Sentences {
    /** The test of a sentence, on a new store. */
    interface Test {
        void on(CommitWaitStore store);
    }

    private final Document document;
    private String place = "";
    private int kept = 0;
    private int broken = 0;

    Sentences(Document document) {
        this.document = document;
    }

    /** Where the sentences stand that are told next. */
    void at(String newPlace) {
        place = newPlace;
    }

    /** One test: what it quotes is a sentence of the document, or a part of one. */
    void says(String sentence, Test test) {
        int wrongBefore = Check.wrongAnswers();
        if (!document.quote(place, sentence)) {
            Check.report("the document does not say so");
        }
        try {
            test.on(new CommitWaitStore());
        } catch (RuntimeException thrown) {
            Check.report("a call that should answer throws " + thrown + " " + thrown.getStackTrace()[0]);
        }
        count(sentence, Check.wrongAnswers() == wrongBefore);
    }

    private void count(String sentence, boolean isKept) {
        if (isKept) {
            kept++;
        } else {
            broken++;
            System.out.println("NOT KEPT: " + place + ": " + sentence);
        }
    }

    /** The last test: nothing stands in the document that none of the tests has quoted. */
    void sayAll() {
        int wrongBefore = Check.wrongAnswers();
        for (String stretch : document.unquoted()) {
            Check.report("without a test: " + stretch);
        }
        at("all places");
        count("each sentence has a test", Check.wrongAnswers() == wrongBefore);
    }

    /** The numbers of tests, in the line that .ci/run adds to its own. */
    void end() {
        System.out.println(kept + " passed, " + broken + " failed");
        if (broken > 0) {
            System.exit(1);
        }
    }
}
