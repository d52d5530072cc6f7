/** The boundaries that stand under 'What it is', 'The public face' and 'Terms'. */
public final class TermsEdgesTest extends Edges {
    private static final int KINDS_OF_CALLS = 18;
    private static final int[] ODD = {
        Integer.MIN_VALUE, Integer.MIN_VALUE + 1, -65536, -256, -2, -1, 7, 100, 101, 159, 160, 256, 65536 + 1,
        Integer.MAX_VALUE - 1, Integer.MAX_VALUE,
    };

    private TermsEdgesTest() {
        super("TermsEdgesTest");
    }

    public static void main(String[] args) {
        TermsEdgesTest test = new TermsEdgesTest();
        test.whatItIs();
        test.thePublicFace();
        test.descriptions();
        test.axioms();
        test.worlds();
        test.below();
        test.end();
    }

    private void whatItIs() {
        sentence("An object is used for at most 512 calls after it has been made", this::lastCall);
        sentence("what later calls answer is free", this::laterCalls);
    }

    private void thePublicFace() {
        sentence("NONE = -1", this::none);
        sentence("public int name();", this::nameThrowsNothing);
        sentence("public boolean retract(int axiom);", this::retractThrowsNothing);
        sentence("public int reason(int i);", this::reasonThrowsNothing);
        sentence("public int count(int what);", this::countThrowsNothing);
        sentence("throws IndexOutOfBoundsException", this::twoNotThereAtOnce);
    }

    private void descriptions() {
        sentence("DESCRIPTIONS have the numbers 0, 1, ..", this::numbersOfDescriptions);
        sentence("(at most 160)", this::mostDescriptions);
        sentence("0 is ALL, 1 NOTHING", this::allAndNothing);
        sentence("r being a ROLE, 0 .. 5", this::roles);
        sentence("One that was made already is not made again", this::madeOnce);
        sentence("(BOTH of d, e and of e, d are two)", this::bothAreTwo);
    }

    private void axioms() {
        sentence("AXIOMS have the numbers 1, 2, ..", this::numbersOfAxioms);
        sentence("(at most 100 since the beginning)", this::mostAxioms);
        sentence("IN FORCE are those that were not taken back.", this::inForce);
    }

    private void worlds() {
        sentence("A WORLD has one thing or more", this::oneThingOrMore);
        sentence("each name stands for some of its things", this::namesStandForSome);
        sentence("each role for some pairs of things", this::rolesStandForSome);
        sentence("ALL for all, NOTHING for none", this::allForAllNothingForNone);
        sentence("BOTH for those that both stand for", this::bothStandFor);
        sentence("SOME r of d for those that are the first one of a pair of r whose second one d stands for",
                this::someStandsFor);
        sentence("what stands below stands for no other things than that above it", this::belowFits);
        sentence("equal ones for the same", this::equalFits);
        sentence("a role below another one for no other pairs", this::rolesFit);
        sentence("if r has a pair x, y, and s y, z, t has x, z", this::chainsFit);
    }

    private void below() {
        sentence("d IS BELOW e if in every world that fits to the axioms in force", this::noWorldFits);
        sentence("Two are EQUAL if each is below the other one", this::equalIsBothWays);
        sentence("d is STRICTLY below e if it is below it and they are not equal", this::strictly);
    }

    /** Each kind of call once as the very last one of an object that was filled before. */
    private void lastCall() {
        for (int kind = 0; kind < KINDS_OF_CALLS; kind++) {
            TermServer x = ladder();
            x.both(2, 3);
            x.some(5, 4);
            x.retract(AXIOMS);
            x.why(2, 101);
            int made = 101 + 100 + 4;
            for (int call = made + 1; call < CALLS; call++) {
                due("call " + call, x.isBelow(2, 2 + call % 100), true);
            }
            due("call 512 of kind " + kind, call(x, kind), dueAtLast(kind));
        }
    }

    private static long call(TermServer x, int kind) {
        switch (kind) {
            case 0: return x.name();
            case 1: return x.both(3, 2);
            case 2: return x.some(0, 4);
            case 3: return x.below(2, 3);
            case 4: return x.equal(2, 3);
            case 5: return x.roleBelow(0, 5);
            case 6: return x.chain(0, 0, 5);
            case 7: return x.retract(99) ? 1 : 0;
            case 8: return x.isBelow(2, 102) ? 1 : 0;
            case 9: return x.supers(2);
            case 10: return x.sup(2, 99);
            case 11: return x.direct(100, 101) ? 1 : 0;
            case 12: return x.twin(103);
            case 13: return x.common(50, 60, 0);
            case 14: return x.why(3, 101);
            case 15: return x.reason(98);
            case 16: return x.has(104, 5, 101) ? 1 : 0;
            default: return x.count(3);
        }
    }

    /** 103 is the both of 2 and 3, 104 the some of 4; axiom 100 was taken back, and none can be told. */
    private static long dueAtLast(int kind) {
        long[] due = {105, 105, 105, NONE, NONE, NONE, NONE, 1, 0, 100, 101, 1, 2, 60, 98, 99, 1, 99};
        return due[kind];
    }

    /** Free is the answer alone: each call ends, and throws nothing but what the face tells. */
    private void laterCalls() {
        TermServer x = ladder();
        for (int call = 0; call < 2 * CALLS; call++) {
            due("ends", endsAsTheFaceTells(x, call % KINDS_OF_CALLS), true);
        }
    }

    private static boolean endsAsTheFaceTells(TermServer x, int kind) {
        boolean mayThrow = kind != 0 && kind != 7 && kind != 15 && kind != 17;
        try {
            call(x, kind);
            return true;
        } catch (RuntimeException e) {
            return mayThrow && e.getClass() == IndexOutOfBoundsException.class;
        }
    }

    private void none() {
        TermServer x = new TermServer();
        due("NONE", TermServer.NONE, -1);
        due("no reason", x.reason(0), -1);
        due("no count", x.count(7), -1);
        due("no name above", x.sup(ALL, 0), -1);
        due("no common name", x.common(ALL, ALL, 0), -1);
        due("not below", x.why(ALL, NOTHING), -1);
    }

    private void nameThrowsNothing() {
        TermServer x = new TermServer();
        for (int call = 1; call <= CALLS - 1; call++) {
            due("name " + call, x.name(), call + 1 < DESCRIPTIONS ? call + 1 : NONE);
        }
        due("descriptions", x.count(0), DESCRIPTIONS);
    }

    private void retractThrowsNothing() {
        for (int axiom : ODD) {
            due("of a new one " + axiom, new TermServer().retract(axiom), false);
        }
        TermServer full = ladder();
        for (int axiom : ODD) {
            due("of a full one " + axiom, full.retract(axiom), axiom == 7 || axiom == 100);
        }
    }

    private void reasonThrowsNothing() {
        TermServer fresh = new TermServer();
        for (int i : ODD) {
            due("of a new one " + i, fresh.reason(i), NONE);
        }
        TermServer full = ladder();
        full.why(2, 102);
        for (int i : ODD) {
            due("of a full one " + i, full.reason(i), i == 7 ? 8 : NONE);
        }
    }

    private void countThrowsNothing() {
        TermServer fresh = new TermServer();
        TermServer full = ladder();
        for (int what : ODD) {
            due("of a new one " + what, fresh.count(what), NONE);
            due("of a full one " + what, full.count(what), NONE);
        }
    }

    /** More than one argument that is not there is refused as one is. */
    private void twoNotThereAtOnce() {
        TermServer x = names(1);
        refused("both", () -> x.both(-1, 3));
        refused("some", () -> x.some(6, 3));
        refused("below", () -> x.below(3, -1));
        refused("equal", () -> x.equal(3, 3));
        refused("roleBelow", () -> x.roleBelow(-1, 6));
        refused("chain", () -> x.chain(6, -1, 6));
        refused("isBelow", () -> x.isBelow(3, 3));
        refused("direct", () -> x.direct(-1, -1));
        refused("common", () -> x.common(3, -1, -1));
        refused("why", () -> x.why(-1, 3));
        refused("has", () -> x.has(3, 6, -1));
        due("descriptions", x.count(0), 3);
        due("axioms", x.count(2), 0);
    }

    private void numbersOfDescriptions() {
        TermServer x = new TermServer();
        due("name", x.name(), 2);
        due("both", x.both(ALL, NOTHING), 3);
        due("some", x.some(0, 2), 4);
        refused("both", () -> x.both(5, 2));
        due("both made already", x.both(ALL, NOTHING), 3);
        due("name", x.name(), 5);
        due("some", x.some(0, 5), 6);
        due("both", x.both(2, 5), 7);
        due("axioms have numbers of their own", x.below(2, 5), 1);
        due("name", x.name(), 8);
    }

    private void mostDescriptions() {
        TermServer x = names(51);
        for (int i = 0; i < 107; i++) {
            int made = 53 + i;
            due("description " + made, i % 2 == 0 ? x.both(2, 2 + i) : x.some(i % 6, 2 + i), made);
        }
        due("one more name", x.name(), NONE);
        due("one more both", x.both(159, 159), NONE);
        due("one more some", x.some(5, 159), NONE);
        due("descriptions", x.count(0), DESCRIPTIONS);
        due("the last one is there", x.isBelow(159, 159), true);
        refused("the one behind it", () -> x.isBelow(160, 160));
    }

    private void allAndNothing() {
        TermServer x = new TermServer();
        due("NOTHING below ALL", x.isBelow(1, 0), true);
        due("ALL below NOTHING", x.isBelow(0, 1), false);
        int n = x.name();
        due("a name below 0", x.isBelow(n, 0), true);
        due("1 below a name", x.isBelow(1, n), true);
        due("0 is no name", x.sup(1, 0), n);
        due("names", x.count(1), 1);
    }

    private void roles() {
        TermServer x = names(1);
        for (int r = 0; r < ROLES; r++) {
            due("some of role " + r, x.some(r, 2), 3 + r);
            due("roleBelow " + r, x.roleBelow(r, r), 2 * r + 1);
            due("chain " + r, x.chain(r, r, r), 2 * r + 2);
        }
        for (int r = 0; r < ROLES; r++) {
            for (int s = 0; s < ROLES; s++) {
                due("has " + r + " of some " + s, x.has(3 + s, r, 2), r == s);
            }
        }
        refused("some of role -1", () -> x.some(-1, 2));
        refused("some of role 6", () -> x.some(6, 2));
        refused("roleBelow 5 6", () -> x.roleBelow(5, 6));
        refused("chain 5 5 6", () -> x.chain(5, 5, 6));
        refused("has of role 6", () -> x.has(2, 6, 2));
    }

    private void madeOnce() {
        TermServer x = names(2);
        int both = x.both(2, 3);
        int some = x.some(4, both);
        due("both", x.both(2, 3), both);
        due("some", x.some(4, both), some);
        x.below(ALL, 2);
        x.equal(both, some);
        due("both, told of", x.both(2, 3), both);
        due("some, told of", x.some(4, both), some);
        due("descriptions", x.count(0), 6);
        due("an equal one is another one", x.both(3, 3), 6);
        due("so is one of an equal one", x.some(4, some), 7);
        due("so is that of another role", x.some(3, both), 8);
        due("so is that of NOTHING", x.both(NOTHING, NOTHING), 9);
        due("so is that of ALL", x.both(ALL, ALL), 10);
        due("that of ALL once more", x.both(ALL, ALL), 10);
        due("a name is always new", x.name(), 11);
    }

    private void bothAreTwo() {
        TermServer x = names(2);
        due("both 2 3", x.both(2, 3), 4);
        due("both 3 2", x.both(3, 2), 5);
        due("both 2 3 again", x.both(2, 3), 4);
        due("both 3 2 again", x.both(3, 2), 5);
        due("both ALL NOTHING", x.both(ALL, NOTHING), 6);
        due("both NOTHING ALL", x.both(NOTHING, ALL), 7);
        due("both 4 5", x.both(4, 5), 8);
        due("both 5 4", x.both(5, 4), 9);
        due("though they are equal", x.twin(5), 4);
    }

    private void numbersOfAxioms() {
        TermServer x = names(2);
        due("below", x.below(2, 3), 1);
        due("equal", x.equal(2, 3), 2);
        due("roleBelow", x.roleBelow(0, 1), 3);
        due("chain", x.chain(0, 1, 2), 4);
        refused("below", () -> x.below(2, 4));
        x.retract(4);
        due("one taken back keeps its number", x.below(2, 3), 5);
        due("there is no 0", x.retract(0), false);
    }

    private void mostAxioms() {
        TermServer x = names(2);
        for (int a = 1; a <= AXIOMS; a++) {
            due("axiom " + a, tell(x, a % 4), a);
            due("taken back " + a, x.retract(a), true);
        }
        for (int kind = 0; kind < 4; kind++) {
            due("one more", tell(x, kind), NONE);
        }
        due("told", x.count(2), AXIOMS);
        due("in force", x.count(3), 0);
    }

    private static int tell(TermServer x, int kind) {
        switch (kind) {
            case 0: return x.below(2, 3);
            case 1: return x.equal(2, 3);
            case 2: return x.roleBelow(0, 1);
            default: return x.chain(0, 1, 2);
        }
    }

    private void inForce() {
        TermServer x = names(2);
        int lower = x.some(0, 2);
        int upper = x.some(1, 2);
        x.below(2, 3);
        x.equal(3, 2);
        x.roleBelow(0, 1);
        x.chain(0, 0, 2);
        int two = x.some(0, lower);
        due("all in force", x.count(3), 4);
        due("below", x.isBelow(2, 3), true);
        due("role", x.isBelow(lower, upper), true);
        due("chain", x.has(two, 2, 2), true);
        x.retract(2);
        due("equal taken back leaves below", x.isBelow(2, 3), true);
        due("and no more", x.isBelow(3, 2), false);
        x.retract(1);
        due("below taken back", x.isBelow(2, 3), false);
        x.retract(3);
        due("role taken back", x.isBelow(lower, upper), false);
        due("chain in force", x.has(two, 2, 2), true);
        x.retract(4);
        due("chain taken back", x.has(two, 2, 2), false);
        due("none in force", x.count(3), 0);
    }

    private void oneThingOrMore() {
        TermServer x = names(1);
        due("ALL is something", x.isBelow(ALL, NOTHING), false);
        x.below(ALL, 2);
        due("so is a name that is all", x.isBelow(2, NOTHING), false);
        x.below(2, NOTHING);
        due("no world has no thing", x.isBelow(ALL, NOTHING), true);
    }

    private void namesStandForSome() {
        TermServer x = names(2);
        due("some may be all", x.isBelow(2, NOTHING), false);
        due("some may be none", x.isBelow(ALL, 2), false);
        due("others may be others", x.isBelow(2, 3), false);
        due("they may share some", x.isBelow(x.both(2, 3), NOTHING), false);
        x.below(2, NOTHING);
        due("one of none lets others stand", x.isBelow(3, NOTHING), false);
    }

    private void rolesStandForSome() {
        TermServer x = new TermServer();
        int led = x.some(5, ALL);
        due("some may be no pairs", x.isBelow(ALL, led), false);
        due("some may be pairs", x.isBelow(led, NOTHING), false);
        x.below(led, NOTHING);
        due("a role of no pairs", x.has(ALL, 5, ALL), false);
        due("lets others stand", x.isBelow(x.some(4, ALL), NOTHING), false);
        due("so does it things", x.isBelow(ALL, NOTHING), false);
    }

    private void allForAllNothingForNone() {
        TermServer x = names(1);
        due("both with ALL", x.twin(x.both(2, ALL)), 2);
        due("both with NOTHING", x.twin(x.both(NOTHING, 2)), NOTHING);
        due("both of ALL and NOTHING", x.twin(x.both(ALL, NOTHING)), NOTHING);
        due("some of NOTHING", x.twin(x.some(3, NOTHING)), NOTHING);
        due("some of ALL is not ALL", x.twin(x.some(3, ALL)), 7);
        due("nor NOTHING", x.isBelow(7, NOTHING), false);
    }

    private void bothStandFor() {
        TermServer x = names(4);
        int both = x.both(2, 3);
        due("below one", x.isBelow(both, 2), true);
        due("below the other one", x.isBelow(both, 3), true);
        x.below(4, 2);
        due("below one alone is not enough", x.isBelow(4, both), false);
        x.below(5, 3);
        due("below the other one alone is not enough", x.isBelow(5, both), false);
        x.below(4, 3);
        due("below both is", x.isBelow(4, both), true);
        due("of one and itself", x.twin(x.both(2, 2)), 2);
    }

    private void someStandsFor() {
        TermServer x = names(3);
        int some = x.some(0, 2);
        x.below(2, 3);
        due("the second one may be above", x.has(some, 0, 3), true);
        due("not below", x.isBelow(x.some(0, 3), some), false);
        due("the first one is none of d", x.isBelow(some, 2), false);
        due("nor is d a first one", x.isBelow(2, some), false);
        int two = x.both(some, x.some(0, 4));
        due("two pairs are not one", x.isBelow(two, x.some(0, x.both(2, 4))), false);
        x.below(2, NOTHING);
        due("no second one, no first one", x.isBelow(some, NOTHING), true);
    }

    private void belowFits() {
        TermServer x = names(3);
        x.below(2, 3);
        due("forth", x.isBelow(2, 3), true);
        due("not back", x.isBelow(3, 2), false);
        x.below(3, 3);
        due("of itself says nothing", x.count(4), 2 * 3 + 1 + 1);
        x.below(NOTHING, 4);
        x.below(4, ALL);
        due("nor does that of NOTHING and of ALL", x.count(4), 2 * 3 + 1 + 1);
    }

    private void equalFits() {
        TermServer x = names(2);
        x.equal(2, 3);
        due("forth", x.isBelow(2, 3), true);
        due("back", x.isBelow(3, 2), true);
        x.equal(2, NOTHING);
        due("to NOTHING", x.isBelow(3, NOTHING), true);
        TermServer y = names(2);
        y.equal(3, ALL);
        due("to ALL", y.isBelow(2, 3), true);
        y.equal(2, 2);
        due("to itself", y.isBelow(3, 2), false);
    }

    private void rolesFit() {
        TermServer x = names(1);
        x.roleBelow(5, 0);
        due("forth", x.has(x.some(5, 2), 0, 2), true);
        due("not back", x.has(x.some(0, 2), 5, 2), false);
        x.roleBelow(0, 5);
        due("round", x.has(x.some(0, 2), 5, 2), true);
        due("no other one", x.has(x.some(0, 2), 4, 2), false);
    }

    private void chainsFit() {
        TermServer x = names(1);
        int inner = x.some(1, 2);
        int outer = x.some(0, inner);
        int other = x.some(1, x.some(0, 2));
        x.chain(0, 1, 5);
        due("one behind the other", x.has(outer, 5, 2), true);
        due("in the other order", x.has(other, 5, 2), false);
        due("the first one alone", x.has(outer, 5, inner), false);
        due("the second one alone", x.has(inner, 5, 2), false);
        x.chain(0, 5, 0);
        int third = x.some(0, outer);
        due("a chain behind a chain", x.has(third, 0, 2), true);
        x.chain(1, 1, 1);
        due("a role behind itself", x.has(x.some(1, inner), 1, 2), true);
        due("three times", x.has(x.some(1, x.some(1, inner)), 1, 2), true);
    }

    private void noWorldFits() {
        TermServer x = names(2);
        due("itself", x.isBelow(2, 2), true);
        x.below(ALL, NOTHING);
        for (int d = 0; d < 4; d++) {
            for (int e = 0; e < 4; e++) {
                due("in no world " + d + " below " + e, x.isBelow(d, e), true);
                due("in no world " + d + " has " + e, x.has(d, 5, e), true);
            }
        }
        due("one that is made then", x.isBelow(x.name(), x.some(0, NOTHING)), true);
        x.retract(1);
        due("worlds fit again", x.isBelow(2, 3), false);
        due("also to that made then", x.isBelow(4, NOTHING), false);
    }

    private void equalIsBothWays() {
        TermServer x = names(3);
        x.below(2, 3);
        due("one way", x.isBelow(2, 3), true);
        due("not the other way", x.isBelow(3, 2), false);
        due("one way", x.twin(3), 3);
        due("one way", x.twin(2), 2);
        x.below(3, 4);
        x.below(4, 2);
        due("round", x.twin(3), 2);
        due("round", x.twin(4), 2);
        x.retract(2);
        due("the round was opened", x.twin(4), 4);
    }

    private void strictly() {
        TermServer x = names(2);
        due("not itself", x.direct(2, 2), false);
        due("not what is not below", x.direct(2, 3), false);
        x.below(2, 3);
        due("below alone", x.direct(2, 3), true);
        x.below(3, 2);
        due("not equal ones", x.direct(2, 3), false);
        due("nor back", x.direct(3, 2), false);
        due("NOTHING not itself", x.direct(NOTHING, NOTHING), false);
        due("ALL not itself", x.direct(ALL, ALL), false);
    }
}
