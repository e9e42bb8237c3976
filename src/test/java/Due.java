/** Counts and prints the answers that are not as due; the tests of this folder share it. */
final class Due {
    private static int asked = 0;
    private static int wrong = 0;
    private static int sentences = 0;
    private static String sentence = "";

    private Due() {
    }

    static void is(String call, int got, int want) {
        asked++;
        if (got != want) {
            wrong++;
            System.out.println(sentence + call + " answered " + got + ", due is " + want);
        }
    }

    /** Runs the test of one sentence of the document; a test that asks nothing holds nothing, and no call throws. */
    static void holds(String words, Runnable test) {
        int before = asked;
        sentence = "'" + words + "': ";
        sentences++;
        try {
            test.run();
        } catch (RuntimeException thrown) {
            wrong++;
            System.out.println(sentence + "a call threw " + thrown);
        }
        if (asked == before) {
            wrong++;
            System.out.println(sentence + "nothing was asked");
        }
        sentence = "";
    }

    static int wrongSoFar() {
        return wrong;
    }

    static void close() {
        String told = sentences == 0 ? "" : sentences + " sentences, ";
        System.out.println(told + asked + " answers, " + wrong + " not as due");
        if (asked == 0 || wrong != 0) {
            System.exit(1);
        }
    }
}
