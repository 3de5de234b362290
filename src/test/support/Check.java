/** Counts and prints the answers that are not due. */
final class Check {
    private static int checked = 0;
    private static int wrong = 0;
    private static String sentence = "";
    private static int checkedBefore = 0;

    private Check() {
    }

    /** Tells the sentence of the document that the next answers are about. A sentence without answers is wrong too. */
    static void about(String next) {
        endSentence();
        sentence = next;
        checkedBefore = checked;
    }

    private static void endSentence() {
        if (!sentence.isEmpty() && checked == checkedBefore) {
            wrong++;
            System.out.println("nothing is tested of: " + sentence);
        }
        sentence = "";
    }

    static void due(String call, long got, long want) {
        checked++;
        if (got != want) {
            tellWrong(call, "" + got, "" + want);
        }
    }

    static void due(String call, String got, String want) {
        checked++;
        if (!got.equals(want)) {
            tellWrong(call, got, want);
        }
    }

    private static void tellWrong(String call, String got, String want) {
        wrong++;
        System.out.println((sentence.isEmpty() ? "" : sentence + ": ") + call + " answered " + got + ", due is " + want);
    }

    static void end() {
        endSentence();
        System.out.println(wrong == 0 ? checked + " answers are as due" : wrong + " answers are not as due");
        if (wrong != 0 || checked == 0) {
            System.exit(1);
        }
    }
}
