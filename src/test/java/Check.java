/** Counts answers that are not the ones that are due, and tells the document's sentence that asks for them. */
final class Check {
    private static final int MOST_TOLD = 50;
    private static int wrong = 0;
    private static String sentence = "";

    private Check() {
    }

    /** A test of one sentence of the document. */
    static void that(String words, Runnable test) {
        sentence = words;
        try {
            test.run();
        } catch (RuntimeException e) {
            due("a call that threw " + e, true, false);
        }
        sentence = "";
    }

    static void due(String what, long got, long want) {
        if (got != want) {
            wrong++;
            if (wrong <= MOST_TOLD) {
                System.out.println(what + " answered " + got + ", due is " + want + " by: " + sentence);
            }
        }
    }

    static void due(String what, boolean got, boolean want) {
        due(what, got ? 1 : 0, want ? 1 : 0);
    }

    static void end() {
        System.out.println(wrong == 0 ? "all answers are as due" : wrong + " answers are not as due");
        if (wrong != 0) {
            System.exit(1);
        }
    }
}
