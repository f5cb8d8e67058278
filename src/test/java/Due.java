/** Counts the answers that are not the ones that are due, and prints each of them. */
final class Due {
    private final String name;
    private String sentence = "";
    private int wrong = 0;
    private int asked = 0;
    private int askedOfSentence = 1;

    Due(String name) {
        this.name = name;
    }

    /** What is asked from here on is about this sentence, by the document's own words. */
    void sentence(String words) {
        endSentence();
        sentence = ", \"" + words + "\"";
        askedOfSentence = 0;
    }

    /** The same of a part of what the sentence tells, or of what follows from it. */
    void sentence(String words, String part) {
        sentence(words);
        sentence += " (" + part + ")";
    }

    void is(String call, long got, long want) {
        asked++;
        askedOfSentence++;
        if (got != want) {
            wrong++;
            System.out.println(name + sentence + ": " + call + " answered " + got + ", due is " + want);
        }
    }

    int wrong() {
        return wrong;
    }

    void end() {
        endSentence();
        System.out.println(name + ": " + asked + " answers, " + wrong + " not as due");
        if (wrong != 0) {
            System.exit(1);
        }
    }

    /** A sentence that nothing was asked about has no test. */
    private void endSentence() {
        if (askedOfSentence == 0) {
            wrong++;
            System.out.println(name + sentence + ": nothing was asked about it");
        }
    }
}
