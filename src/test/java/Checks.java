/** Counts the answers that are not as due, and tells them. */
final class Checks {
    private final String title;
    private int done = 0;
    private int wrong = 0;

    Checks(String title) {
        this.title = title;
    }

    void due(String what, long got, long want) {
        done++;
        if (got != want) {
            tell(what + " answered " + got + ", due is " + want);
        }
    }

    void due(String what, boolean got, boolean want) {
        done++;
        if (got != want) {
            tell(what + " answered " + got + ", due is " + want);
        }
    }

    /** The call must throw an IndexOutOfBoundsException and nothing else. */
    void refused(String what, Runnable call) {
        done++;
        try {
            call.run();
            tell(what + " threw nothing, due is IndexOutOfBoundsException");
        } catch (RuntimeException e) {
            if (e.getClass() != IndexOutOfBoundsException.class) {
                tell(what + " threw " + e.getClass().getName() + ", due is IndexOutOfBoundsException");
            }
        }
    }

    boolean allDue() {
        return wrong == 0;
    }

    int done() {
        return done;
    }

    int wrong() {
        return wrong;
    }

    void end() {
        System.out.println(title + ": " + done + " checks, " + wrong + " wrong");
        if (wrong != 0) {
            System.exit(1);
        }
    }

    private void tell(String text) {
        wrong++;
        if (wrong <= 20) {
            System.out.println(title + ": " + text);
        }
    }
}
