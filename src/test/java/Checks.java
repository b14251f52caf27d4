/** Collects the calls whose answer is not the one that is due. */
final class Checks {
    /** A call that may throw. */
    interface Call {
        int answer();
    }

    private final String test;
    private int made;
    private int wrong;

    Checks(String test) {
        this.test = test;
    }

    void due(String call, long got, long want) {
        made++;
        if (got != want) {
            tell(call + " answered " + got + ", due is " + want);
        }
    }

    void dueThrow(String call, Call made) {
        this.made++;
        try {
            tell(call + " answered " + made.answer() + ", due is ArrayIndexOutOfBoundsException");
        } catch (RuntimeException e) {
            if (e.getClass() != ArrayIndexOutOfBoundsException.class) {
                tell(call + " threw " + e + ", due is ArrayIndexOutOfBoundsException");
            }
        }
    }

    void tell(String what) {
        wrong++;
        if (wrong <= 50) {
            System.out.println(test + ": " + what);
        }
    }

    boolean anyWrong() {
        return wrong != 0;
    }

    /** Ends the test's program with exit code 1 if there was a wrong answer. */
    void end() {
        System.out.println(test + ": " + made + " answers, " + wrong + " not as due");
        if (wrong != 0) {
            System.exit(1);
        }
    }
}
