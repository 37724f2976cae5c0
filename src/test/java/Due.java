/** Counts the answers of a test and prints those that are not due. */
final class Due {
    private final String test;
    private int asked;
    private int wrong;

    Due(String test) {
        this.test = test;
    }

    void is(String call, long got, long want) {
        asked++;
        if (got == want) return;
        wrong++;
        System.out.println(test + ": " + call + " answered " + got + ", due is " + want);
    }

    void same(String call, String got, String want) {
        holds(call + " answered " + got + ", due is " + want + ": so", got.equals(want));
    }

    void holds(String what, boolean so) {
        is(what, so ? 1 : 0, 1);
    }

    boolean anyWrong() {
        return wrong > 0;
    }

    void end() {
        System.out.println(test + ": " + (asked - wrong) + " of " + asked + " answers are as due");
        if (wrong > 0) System.exit(1);
    }
}
