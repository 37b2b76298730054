/** Counts the answers that are not the ones that are due. */
final class Due {
    private final String promise;
    private static int wrong = 0;
    private static int asked = 0;

    Due(String promise) {
        this.promise = promise;
    }

    void is(String call, long got, long want) {
        asked++;
        if (got == want) return;
        wrong++;
        if (wrong <= 40) System.out.println(promise + ": " + call + " answered " + got + ", due is " + want);
    }

    /** Answers of one kind of call for 0, 1, 2 and so on, as one text with spaces between. */
    void row(String call, String got, String want) {
        asked++;
        if (got.equals(want)) return;
        wrong++;
        if (wrong <= 40) System.out.println(promise + ": " + call + " answered " + got + ", due is " + want);
    }

    static void finish() {
        System.out.println(asked + " answers, " + wrong + " not as due");
        if (wrong != 0) System.exit(1);
    }
}
