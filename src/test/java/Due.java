/** Counts and prints the answers that are not the ones that are due. */
final class Due {
    private int answers = 0;
    private int wrong = 0;

    void same(String call, long got, long want) {
        answers++;
        if (got != want) {
            wrong++;
            System.out.println(call + " answered " + got + ", due is " + want);
        }
    }

    void same(String call, String got, String want) {
        answers++;
        if (!got.equals(want)) {
            wrong++;
            System.out.println(call + " gave " + got + ", due is " + want);
        }
    }

    void yes(String call, boolean got) {
        same(call, got ? 1 : 0, 1);
    }

    void no(String call, boolean got) {
        same(call, got ? 1 : 0, 0);
    }

    /** Ends the program: with exit code 1 if an answer was wrong, or if none was looked at. */
    void close() {
        System.out.println(answers + " answers looked at, " + wrong + " wrong");
        System.exit(wrong == 0 && answers > 0 ? 0 : 1);
    }
}
