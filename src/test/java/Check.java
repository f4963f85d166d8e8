/** Counts answers that are due and those that are not, for one test program. */
final class Check {
    private static final int MOST_PRINTED = 40;

    private final String program;
    private long right;
    private long wrong;

    Check(String program) {
        this.program = program;
    }

    void due(String call, long got, long want) {
        if (got == want) {
            right++;
            return;
        }
        wrong++;
        if (wrong <= MOST_PRINTED) {
            System.out.println(program + ": " + call + " answered " + got + ", due is " + want);
        }
    }

    void holds(String what, boolean is) {
        due(what, is ? 1 : 0, 1);
    }

    boolean allRight() {
        return wrong == 0;
    }

    /** Ends the program: with exit code 1 if an answer was not due, or if there was none at all. */
    void end() {
        System.out.println(program + ": " + right + " answers as due, " + wrong + " not");
        System.exit(wrong == 0 && right > 0 ? 0 : 1);
    }
}
