/** Compares answers with those that are due, and ends the run with 1 if one was wrong. */
final class Check {
    static final long BAD = Long.MIN_VALUE + 2, NOT = Long.MIN_VALUE + 3;
    private int wrong;

    void due(String call, long got, long want) {
        if (got != want) {
            wrong++;
            System.out.println(call + " answered " + got + ", due is " + want);
        }
    }

    /** Both parts of a fraction. */
    void fraction(String call, long above, long below, long wantAbove, long wantBelow) {
        due(call + " above", above, wantAbove);
        due(call + " below", below, wantBelow);
    }

    void end() {
        if (wrong != 0) {
            System.out.println(wrong + " answers are not as due");
            System.exit(1);
        }
    }
}
