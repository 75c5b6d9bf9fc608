/** Counts and prints the answers that are not the ones that are due, each with the sentence that it breaks. */
final class Due {
    private String sentence = "";
    private int sentences = 0;
    private int answersBefore = 0;
    private int answers = 0;
    private int wrong = 0;

    /** A test that throws has failed, but the ones behind it are run all the same. */
    void each(Runnable... tests) {
        for (Runnable test : tests) {
            try {
                test.run();
            } catch (RuntimeException e) {
                answers++;
                wrong++;
                System.out.println(sentence + "threw " + e);
            }
        }
    }

    /** What follows tests this sentence of a promise, until the next sentence is named. */
    void promise(int number, String words) {
        begin("promise " + number + ", \"" + words + "\": ");
    }

    /** The same for a sentence that stands before the promises, with the numbers of those that use it. */
    void terms(String promises, String words) {
        begin("promises " + promises + " by the terms, \"" + words + "\": ");
    }

    private void begin(String next) {
        endSentence();
        sentence = next;
        sentences++;
        answersBefore = answers;
    }

    /** A sentence under which no answer was looked at is not tested, whatever the file says. */
    private void endSentence() {
        if (sentences > 0 && answers == answersBefore) {
            wrong++;
            System.out.println(sentence + "no answer was looked at");
        }
    }

    void same(String call, long got, long want) {
        answers++;
        if (got != want) {
            wrong++;
            System.out.println(sentence + call + " answered " + got + ", due is " + want);
        }
    }

    void same(String call, String got, String want) {
        answers++;
        if (!got.equals(want)) {
            wrong++;
            System.out.println(sentence + call + " gave " + got + ", due is " + want);
        }
    }

    void yes(String call, boolean got) {
        same(call, got ? 1 : 0, 1);
    }

    void no(String call, boolean got) {
        same(call, got ? 1 : 0, 0);
    }

    /** Ends the program: with exit code 1 if an answer was wrong, or if none was looked at. */
    void close() {
        endSentence();
        String of = sentences > 0 ? " for " + sentences + " sentences" : "";
        System.out.println(answers + " answers looked at" + of + ", " + wrong + " wrong");
        System.exit(wrong == 0 && answers > 0 ? 0 : 1);
    }
}
