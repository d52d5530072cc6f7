import java.util.ArrayList;
import java.util.List;

/**
 * Sentences of the document that name a boundary, each held by a test of its own. Every object here
 * is used for at most 512 calls, since what later ones answer is free.
 */
abstract class Edges {
    static final int NONE = TermServer.NONE;
    static final int ALL = 0;
    static final int NOTHING = 1;
    static final int DESCRIPTIONS = 160;
    static final int AXIOMS = 100;
    static final int ROLES = 6;
    static final int CALLS = 512;
    /** Too small, too large, and such as are roles again when bits of them get lost. */
    static final int[] NO_ROLES = {
        -1, ROLES, ROLES + 1, 255, 256, 65536 + 5, Integer.MAX_VALUE, Integer.MIN_VALUE, Integer.MIN_VALUE + 1,
    };

    /** A call whose answer is of no interest. */
    interface Call {
        void of(int argument);
    }

    private final Checks checks;
    private String words = "";
    private int sentences = 0;
    private int broken = 0;

    Edges(String title) {
        checks = new Checks(title);
    }

    /** Runs the test of one sentence; whatever it throws breaks this sentence alone. */
    final void sentence(String quoted, Runnable test) {
        words = quoted;
        sentences++;
        int doneBefore = checks.done();
        int wrongBefore = checks.wrong();
        try {
            test.run();
        } catch (RuntimeException | StackOverflowError e) {
            due("the test ends without " + e, false, true);
        }
        if (checks.done() == doneBefore) {
            due("the test checks something", false, true);
        }
        if (checks.wrong() != wrongBefore) {
            broken++;
            System.out.println("broken: " + quoted);
        }
    }

    final void end() {
        System.out.println(sentences + " sentences, " + broken + " broken");
        checks.end();
    }

    final void due(String call, long got, long want) {
        checks.due(words + " / " + call, got, want);
    }

    final void due(String call, boolean got, boolean want) {
        checks.due(words + " / " + call, got, want);
    }

    final void refused(String call, Runnable run) {
        checks.refused(words + " / " + call, run);
    }

    /** The call refuses each description that is not there, and leaves all as it was. */
    final void refusesOthers(TermServer x, String call, Call made) {
        List<Integer> before = state(x);
        for (int d : outside(x.count(0))) {
            refused(call + " of " + d, () -> made.of(d));
        }
        due(call + " refused leaves all as it was", state(x).equals(before), true);
    }

    /** As refusesOthers, but for a role. */
    final void refusesOtherRoles(TermServer x, String call, Call made) {
        List<Integer> before = state(x);
        for (int r : NO_ROLES) {
            refused(call + " of role " + r, () -> made.of(r));
        }
        due(call + " refused leaves all as it was", state(x).equals(before), true);
    }

    /** Too small, too large, and such as are there when bits of them get lost. */
    static int[] outside(int descriptions) {
        return new int[] {
            -1, -descriptions, descriptions, descriptions + 1, DESCRIPTIONS, DESCRIPTIONS + 1, 256, 65536 + 1,
            Integer.MAX_VALUE, Integer.MIN_VALUE, Integer.MIN_VALUE + 1,
        };
    }

    /** All that can be read without asking for one description: all counts and the latest reasons. */
    static List<Integer> state(TermServer x) {
        List<Integer> read = new ArrayList<>();
        for (int what = 0; what <= 6; what++) {
            read.add(x.count(what));
        }
        for (int i = 0; i < 3; i++) {
            read.add(x.reason(i));
        }
        return read;
    }

    static TermServer names(int many) {
        TermServer made = new TermServer();
        for (int i = 0; i < many; i++) {
            made.name();
        }
        return made;
    }

    /** ALL, NOTHING and the names 2 to 159. */
    static TermServer fullOfNames() {
        return names(DESCRIPTIONS - 2);
    }

    /** Names, and so many axioms that say nothing. */
    static TermServer told(int names, int axioms) {
        TermServer made = names(names);
        for (int i = 0; i < axioms; i++) {
            made.below(NOTHING, ALL);
        }
        return made;
    }

    /** The names 2 to 102, told in a row that each is below the next one: 100 axioms. */
    static TermServer ladder() {
        TermServer made = names(AXIOMS + 1);
        for (int d = 2; d < AXIOMS + 2; d++) {
            made.below(d, d + 1);
        }
        return made;
    }

    /** Two names, an axiom and a reason, so that a refused call has something to spoil. */
    static TermServer asked() {
        TermServer x = names(2);
        x.below(2, 3);
        x.why(2, 3);
        return x;
    }
}
