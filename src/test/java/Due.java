/** Holds answers against those that are due, tells every one that is not, and ends the test. */
final class Due {
    private String sentence = "";
    private int looked = 0;
    private int wrong = 0;

    /** The document's words that the answers from here on are held against. */
    void of(String words) {
        sentence = words;
    }

    void is(String call, long got, long want) {
        looked++;
        if (got != want) {
            wrong++;
            System.out.println("  " + call + " answered " + got + ", due is " + want
                    + (sentence.isEmpty() ? "" : " by \"" + sentence + "\""));
        }
    }

    void end() {
        System.out.println("  " + looked + " answers, " + wrong + " not as due");
        if (wrong != 0 || looked == 0) {
            System.exit(1);
        }
    }
}
