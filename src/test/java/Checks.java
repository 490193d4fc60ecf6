/** Counts what a test program checks, and tells each thing that is wrong. */
final class Checks {
    private final String program;
    private int made = 0;
    private int wrong = 0;

    Checks(String program) {
        this.program = program;
    }

    void holds(String what, boolean is) {
        made++;
        if (!is) {
            wrong++;
            System.out.println(program + ": " + what + " does not hold");
        }
    }

    void same(String what, double got, double due) {
        made++;
        if (got != due) {
            wrong++;
            System.out.println(program + ": " + what + " answered " + got + ", due is " + due);
        }
    }

    /** For sums that the document does not make itself, such as a balance over a whole quarter. */
    void near(String what, double got, double due) {
        holds(what + " (" + got + " near " + due + ")", got - due < 1e-9 && due - got < 1e-9);
    }

    void fails(String what, Class<? extends RuntimeException> due, Runnable call) {
        made++;
        Class<?> got = null;
        try {
            call.run();
        } catch (RuntimeException e) {
            got = e.getClass();
        }
        if (got != due) {
            wrong++;
            String name = got == null ? "nothing" : got.getSimpleName();
            System.out.println(program + ": " + what + " threw " + name + ", due is " + due.getSimpleName());
        }
    }

    void passes(String what, Runnable call) {
        made++;
        try {
            call.run();
        } catch (RuntimeException e) {
            wrong++;
            System.out.println(program + ": " + what + " threw " + e.getClass().getSimpleName() + ", due is none");
        }
    }

    /** An exception that nobody expects is one thing wrong, and the tests behind it still run. */
    void run(String name, Runnable test) {
        try {
            test.run();
        } catch (RuntimeException e) {
            holds(name + " without " + e, false);
        }
    }

    void end() {
        System.out.println(program + ": " + made + " checks, " + wrong + " wrong");
        if (wrong != 0 || made == 0) {
            System.exit(1);
        }
    }
}
