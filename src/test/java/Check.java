/** Counts what is not as due, and ends a test. */
final class Check {
    private static final int SHOWN = 40;
    private final String test;
    private int checks = 0;
    private int wrong = 0;

    Check(String test) {
        this.test = test;
    }

    void due(String what, long got, long want) {
        checks++;
        if (got != want) {
            fault(what + " answered " + got + ", due is " + want);
        }
    }

    void dueText(String what, String got, String want) {
        checks++;
        if (!got.equals(want)) {
            fault(what + " answered " + got + ", due is " + want);
        }
    }

    private void fault(String text) {
        wrong++;
        if (wrong <= SHOWN) {
            System.out.println(test + ": " + text);
        }
    }

    void end() {
        System.out.println(test + ": " + checks + " checks, " + wrong + " not as due");
        if (wrong != 0 || checks == 0) {
            System.exit(1);
        }
    }
}
