/** Compares answers with those that are due, and ends a test with exit code 1 if one is wrong. */
final class Check {
    private static int calls = 0;
    private static int wrong = 0;
    private static String sentence = "";

    private Check() {
    }

    /** What comes now is for this sentence of the document, under this heading. */
    static void sentence(String heading, String words) {
        sentence = heading + ", \"" + words + "\": ";
    }

    static void same(String call, long got, long due) {
        calls++;
        if (got != due) {
            wrong++;
            if (wrong <= 20) {
                System.out.println(sentence + call + " answered " + got + ", due is " + due);
            }
        }
    }

    static void yes(String call, boolean got) {
        same(call, got ? 1 : 0, 1);
    }

    static void no(String call, boolean got) {
        same(call, got ? 1 : 0, 0);
    }

    static void end(String test) {
        System.out.println(test + ": " + calls + " answers, " + wrong + " wrong");
        if (wrong != 0) {
            System.exit(1);
        }
    }
}
