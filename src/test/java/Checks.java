/** Counts the answers that are not as due, and ends a test with exit code 1 if there was one. */
final class Checks {
    private static final int MOST_TOLD = 40;
    private String sentence = "";
    private int done;
    private int wrong;

    /** The document's words that the next checks are about. */
    void sentence(String text) {
        sentence = "\"" + text + "\": ";
    }

    void due(String call, long got, long want) {
        done++;
        if (got != want) {
            fail(call + " answered " + got + ", due is " + want);
        }
    }

    void holds(String what, boolean does) {
        done++;
        if (!does) {
            fail("does not hold: " + what);
        }
    }

    private void fail(String text) {
        wrong++;
        if (wrong <= MOST_TOLD) {
            System.out.println(sentence + text);
        }
    }

    void end() {
        System.out.println(wrong == 0 ? done + " answers are as due"
            : wrong + " of " + done + " answers are not as due");
        if (wrong != 0) {
            System.exit(1);
        }
    }
}
