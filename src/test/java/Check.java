/** Counts what is not as due, says of which sentence it is, and ends a test. */
final class Check {
    private static final int SHOWN = 40;
    private final String test;
    private String sentence = "";
    private int checks = 0;
    private int checksBefore = 0;
    private int sentences = 0;
    private int wrong = 0;

    Check(String test) {
        this.test = test;
    }

    /** What is checked from now on is due by this sentence of the document. */
    void sentence(String promise, String words) {
        endSentence();
        sentence = " [" + promise + ": \"" + words + "\"]";
        sentences++;
        checksBefore = checks;
    }

    private void endSentence() {
        if (sentences > 0 && checks == checksBefore) {
            fault("nothing was checked");
        }
    }

    void due(String what, long got, long want) {
        checks++;
        if (got != want) {
            fault(what + " answered " + got + ", due is " + want);
        }
    }

    void dueText(String what, String got, String want) {
        checks++;
        if (!got.equals(want)) {
            fault(what + " answered " + got + ", due is " + want);
        }
    }

    private void fault(String text) {
        wrong++;
        if (wrong <= SHOWN) {
            System.out.println(test + sentence + ": " + text);
        }
    }

    void end() {
        endSentence();
        System.out.println(test + ": " + (sentences > 0 ? sentences + " sentences, " : "")
                + checks + " checks, " + wrong + " not as due");
        if (wrong != 0 || checks == 0) {
            System.exit(1);
        }
    }
}
