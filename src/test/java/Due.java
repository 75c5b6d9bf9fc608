/** Counts and prints the answers that are not the ones that are due, each with the sentence that it breaks. */
final class Due {
    private String sentence = "";
    private int sentences = 0;
    private int answersBefore = 0;
    private int answers = 0;
    private int wrong = 0;

    /** A test that throws has failed, but the ones behind it are run all the same. */
    void each(Runnable... tests) {
        for (Runnable test : tests) {
            try {
                test.run();
            } catch (RuntimeException e) {
                answers++;
                wrong++;
                System.out.println(sentence + "threw " + e);
            }
            endSentence();
        }
    }

    /** What follows tests this sentence of a promise, until the next sentence is named or the test ends. */
    void promise(int number, String words) {
        begin("promise " + number + ", \"" + words + "\": ");
    }

    /** The same for what stands outside the promises, with the numbers of those that use it. */
    void terms(String promises, String words) {
        begin("promises " + promises + " by the terms, \"" + words + "\": ");
    }

    /** What follows tests every promise beside the others. */
    void allPromises(String words) {
        begin("promises 1 to 18, " + words + ": ");
    }

    void face(String words) {
        begin("the public face, " + words + ": ");
    }

    private void begin(String next) {
        endSentence();
        sentence = next;
        sentences++;
        answersBefore = answers;
    }

    /** A sentence under which no answer was looked at is not tested, whatever the file says. */
    private void endSentence() {
        if (!sentence.isEmpty() && answers == answersBefore) {
            wrong++;
            System.out.println(sentence + "no answer was looked at");
        }
        sentence = "";
    }

    void same(String call, long got, long want) {
        count(got == want, call + " answered " + got + ", due is " + want);
    }

    void same(String call, String got, String want) {
        count(got.equals(want), call + " gave " + got + ", due is " + want);
    }

    void yes(String call, boolean got) {
        same(call, got ? 1 : 0, 1);
    }

    void no(String call, boolean got) {
        same(call, got ? 1 : 0, 0);
    }

    private void count(boolean right, String told) {
        answers++;
        if (!right) {
            wrong++;
            System.out.println(sentence + told);
        }
        if (sentence.isEmpty()) {
            wrong++;
            System.out.println("no sentence was named: " + told);
        }
    }

    /** Ends the program: with exit code 1 if an answer was wrong, or if none was looked at. */
    void close() {
        endSentence();
        System.out.println(answers + " answers looked at for " + sentences + " sentences, " + wrong + " wrong");
        System.exit(wrong == 0 && answers > 0 ? 0 : 1);
    }
}
