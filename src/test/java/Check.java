/** Counts answers that are not as due, and ends a test. */
final class Check {
    private int wrong = 0;
    private long asked = 0;

    void due(String what, long got, long want) {
        asked++;
        if (got != want) {
            wrong++;
            System.out.println(what + " answered " + got + ", due is " + want);
        }
    }

    void yes(String what, boolean got) {
        due(what, got ? 1 : 0, 1);
    }

    void no(String what, boolean got) {
        due(what, got ? 1 : 0, 0);
    }

    /** The numbers at the OUTSIDE are just these. */
    void outside(String what, ReplayHosts x, int... numbers) {
        for (int i = 0; i < numbers.length; i++) {
            due(what + ", out(" + i + ")", x.out(i), numbers[i]);
        }
        due(what + ", out(" + numbers.length + ")", x.out(numbers.length), ReplayHosts.NONE);
    }

    int wrong() {
        return wrong;
    }

    void end() {
        System.out.println(asked + " answers, " + wrong + " not as due");
        if (wrong != 0 || asked == 0) {
            System.exit(1);
        }
    }
}
