/** Counts the answers that are not the ones due; every test ends with end(). */
final class Due {
    private static int wrong = 0, asked = 0;
    private static String sentence = "";

    private Due() {
    }

    /** The document's sentence that the next answers hold; it is told with each wrong one. */
    static void of(String words) {
        sentence = "'" + words + "': ";
    }

    static void is(String call, long got, long want) {
        asked++;
        if (got != want) {
            wrong++;
            System.out.println(sentence + call + " answered " + got + ", due is " + want);
        }
    }

    static void holds(String what, boolean holds) {
        asked++;
        if (!holds) {
            wrong++;
            System.out.println(sentence + "does not hold: " + what);
        }
    }

    static void end() {
        System.out.println(wrong == 0 ? asked + " answers are as due" : wrong + " of " + asked + " are not as due");
        if (wrong != 0) {
            System.exit(1);
        }
    }
}
