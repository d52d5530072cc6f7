/** The boundaries that promises 16 and 17 name: why and reason. */
public final class ReasonsEdgesTest extends Edges {
    private ReasonsEdgesTest() {
        super("ReasonsEdgesTest");
    }

    public static void main(String[] args) {
        ReasonsEdgesTest test = new ReasonsEdgesTest();
        test.why();
        test.reason();
        test.end();
    }

    private void why() {
        sentence("16: of the axioms in force", this::ofThoseInForce);
        sentence("16: from the last one to the first one", this::fromTheLastOne);
        sentence("16: left out if it is below without it and those left out before", this::thoseLeftOutBefore);
        sentence("16: how many stay", this::howManyStay);
        sentence("16: NONE when d is not below e", this::notBelow);
        sentence("16: (then there are no reasons)", this::thenNoReasons);
        sentence("16: Throws as isBelow", this::whyNotThere);
        sentence("16: a question leaves all as it was", this::whyChangesNothing);
    }

    private void reason() {
        sentence("17: The i-th (from 0, rising)", this::rising);
        sentence("17: of the reasons that why() found latest", this::foundLatest);
        sentence("17: NONE for none", this::noReason);
    }

    private void ofThoseInForce() {
        TermServer x = names(2);
        x.below(2, 3);
        x.below(2, 3);
        x.below(2, 3);
        due("three alike", x.why(2, 3), 1);
        due("the first one", x.reason(0), 1);
        x.retract(1);
        due("two alike", x.why(2, 3), 1);
        due("the second one", x.reason(0), 2);
        x.retract(3);
        due("one alone", x.why(2, 3), 1);
        due("the second one", x.reason(0), 2);
        x.retract(2);
        due("none in force", x.why(2, 3), NONE);
        x.below(2, 3);
        due("told anew", x.why(2, 3), 1);
        due("the fourth one", x.reason(0), 4);
    }

    /** The last one alone would do, but is left out first; so the longer and older way stays. */
    private void fromTheLastOne() {
        TermServer x = names(4);
        x.below(2, 3);
        x.below(3, 4);
        x.below(4, 5);
        x.below(2, 5);
        due("the older way", x.why(2, 5), 3);
        dueReasons(x, 1, 2, 3);
        TermServer y = names(4);
        y.below(2, 5);
        y.below(2, 3);
        y.below(3, 4);
        y.below(4, 5);
        due("the oldest one alone", y.why(2, 5), 1);
        dueReasons(y, 1);
        TermServer z = names(4);
        z.below(2, 3);
        z.below(4, 5);
        z.below(2, 4);
        z.below(3, 5);
        due("the way that is whole without the last one", z.why(2, 5), 2);
        dueReasons(z, 2, 3);
    }

    /** 3 goes since 1 is there; 1 then has to stay, though with 3 it could go. */
    private void thoseLeftOutBefore() {
        TermServer x = names(3);
        x.below(2, 3);
        x.below(3, 4);
        x.below(2, 3);
        x.equal(4, 3);
        due("each of two pairs once", x.why(2, 4), 2);
        dueReasons(x, 1, 2);
        TermServer y = names(3);
        y.equal(2, 3);
        y.equal(3, 2);
        y.below(2, 4);
        y.below(3, 4);
        due("one of the ways", y.why(2, 4), 1);
        dueReasons(y, 3);
        due("the other question", y.why(3, 4), 2);
        dueReasons(y, 1, 3);
        TermServer z = names(3);
        int some = z.some(0, 3);
        z.roleBelow(0, 1);
        z.below(2, some);
        z.roleBelow(0, 1);
        z.chain(1, 1, 1);
        z.below(3, 4);
        due("of all kinds", z.why(2, z.some(1, 4)), 3);
        dueReasons(z, 1, 2, 5);
    }

    private void howManyStay() {
        TermServer x = ladder();
        due("none for itself", x.why(2, 2), 0);
        due("none for ALL", x.why(2, ALL), 0);
        due("none for NOTHING", x.why(NOTHING, 2), 0);
        due("none for a both", x.why(x.both(2, 3), 3), 0);
        due("one", x.why(2, 3), 1);
        due("all hundred", x.why(2, 102), 100);
        due("all but the first one", x.why(3, 102), 99);
        due("all but the last one", x.why(2, 101), 99);
        x.retract(50);
        due("up to the gap", x.why(2, 51), 49);
        due("from the gap", x.why(52, 102), 50);
        TermServer y = names(2);
        due("no axioms", y.why(NOTHING, 2), 0);
        y.below(ALL, NOTHING);
        due("in no world the one that leaves none", y.why(2, 3), 1);
        due("in no world itself", y.why(2, 2), 0);
    }

    private void notBelow() {
        TermServer x = ladder();
        due("back", x.why(102, 2), NONE);
        due("ALL, a name", x.why(ALL, 102), NONE);
        due("a name, NOTHING", x.why(2, NOTHING), NONE);
        due("ALL, NOTHING", x.why(ALL, NOTHING), NONE);
        x.retract(50);
        due("across a gap", x.why(2, 102), NONE);
        due("in a new object", new TermServer().why(ALL, NOTHING), NONE);
    }

    private void thenNoReasons() {
        TermServer x = ladder();
        due("before", x.why(2, 102), 100);
        due("before", x.reason(0), 1);
        due("not below", x.why(102, 2), NONE);
        due("the first one", x.reason(0), NONE);
        due("the last one", x.reason(99), NONE);
        due("again", x.why(2, 4), 2);
        due("again", x.reason(1), 2);
        due("without any", x.why(2, 2), 0);
        due("the first one", x.reason(0), NONE);
    }

    private void whyNotThere() {
        TermServer x = asked();
        refusesOthers(x, "why 1 -", d -> x.why(NOTHING, d));
        refusesOthers(x, "why - 0", d -> x.why(d, ALL));
        refusesOthers(x, "why - -", d -> x.why(d, d));
        TermServer full = fullOfNames();
        refusesOthers(full, "why 1 - of a full object", d -> full.why(NOTHING, d));
    }

    private void whyChangesNothing() {
        TermServer x = names(5);
        x.below(2, 3);
        x.below(3, 4);
        x.below(5, 6);
        x.below(6, NOTHING);
        int pairs = x.count(4);
        due("why", x.why(2, 4), 2);
        due("others are still below", x.isBelow(5, 2), true);
        due("pairs", x.count(4), pairs);
        due("why not", x.why(4, 2), NONE);
        due("empty ones", x.count(5), 3);
        due("in force", x.count(3), 4);
        due("told", x.count(2), 4);
        due("descriptions", x.count(0), 7);
        due("a new axiom behind it", x.below(4, 5), 5);
        due("holds", x.isBelow(2, NOTHING), true);
        due("and has its reasons", x.why(2, NOTHING), 5);
    }

    private void rising() {
        TermServer x = names(101);
        for (int d = 101; d >= 2; d--) {
            x.below(d, d + 1);
        }
        due("why", x.why(2, 102), 100);
        for (int i = 0; i < 100; i++) {
            due("at " + i, x.reason(i), i + 1);
        }
        due("behind the last one", x.reason(100), NONE);
        due("why", x.why(99, 101), 2);
        due("at 0", x.reason(0), 2);
        due("at 1", x.reason(1), 3);
    }

    private void foundLatest() {
        TermServer x = names(3);
        x.below(2, 3);
        x.below(3, 4);
        x.why(2, 4);
        x.isBelow(3, 4);
        x.retract(1);
        due("one taken back later", x.reason(0), 1);
        x.below(3, 4);
        due("one told later", x.reason(1), 2);
        due("and no more", x.reason(2), NONE);
        x.why(3, 4);
        due("another question", x.reason(0), 2);
        due("and no more", x.reason(1), NONE);
        refused("a question that is refused", () -> x.why(3, 5));
        due("finds none, so the latest ones stay", x.reason(0), 2);
    }

    private void noReason() {
        TermServer fresh = new TermServer();
        TermServer one = asked();
        TermServer full = ladder();
        full.why(2, 102);
        int[] others = {-1, -2, 100, 101, 256, 65536, Integer.MAX_VALUE, Integer.MIN_VALUE, Integer.MIN_VALUE + 1};
        for (int i : others) {
            due("before any why at " + i, fresh.reason(i), NONE);
            due("of one at " + i, one.reason(i), NONE);
            due("of a hundred at " + i, full.reason(i), NONE);
        }
        due("before any why at 0", fresh.reason(0), NONE);
        due("of one at 0", one.reason(0), 1);
        due("of one at 1", one.reason(1), NONE);
        due("of a hundred at 99", full.reason(99), 100);
    }

    private void dueReasons(TermServer x, int... axioms) {
        for (int i = 0; i < axioms.length; i++) {
            due("reason " + i, x.reason(i), axioms[i]);
        }
        due("no more reasons", x.reason(axioms.length), NONE);
    }
}
