/** Counts the sentences that are tested, and tells each answer that is not the one that is due. */
final class Check {
    private static String words = "";
    private static int sentences = 0;
    private static int asked = 0;
    private static int wrong = 0;

    private Check() {
    }

    /** What follows tests these words of the document. */
    static void sentence(String place, String ofDocument) {
        words = place + ": " + ofDocument;
        sentences++;
    }

    static void due(String call, long got, long want) {
        asked++;
        if (got != want) {
            wrong++;
            System.out.println(words + " -- " + call + " answered " + got + ", due is " + want);
        }
    }

    static void due(String call, boolean got, boolean want) {
        due(call, got ? 1 : 0, want ? 1 : 0);
    }

    static void end() {
        if (wrong != 0) {
            System.out.println(wrong + " answers are not as due");
            System.exit(1);
        }
        System.out.println(sentences + " sentences hold, by " + asked + " answers");
    }
}
