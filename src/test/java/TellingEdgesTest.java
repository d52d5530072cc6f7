/** The boundaries that promises 5 to 9 name: below, equal, roleBelow, chain, retract. */
public final class TellingEdgesTest extends Edges {
    private static final int[] NO_AXIOMS = {
        0, -1, -2, -100, 101, 256 + 1, 65536 + 1, Integer.MAX_VALUE, Integer.MIN_VALUE, Integer.MIN_VALUE + 1,
    };

    private TellingEdgesTest() {
        super("TellingEdgesTest");
    }

    public static void main(String[] args) {
        TellingEdgesTest test = new TellingEdgesTest();
        test.below();
        test.equal();
        test.roleBelow();
        test.chain();
        test.retract();
        test.end();
    }

    private void below() {
        sentence("5: its number", this::belowNumber);
        sentence("5: NONE when there are 100", this::belowWhenFull);
        sentence("5: Throws as both", this::belowNotThere);
        sentence("5: Throws as both, when there are 100", this::belowNotThereWhenFull);
    }

    private void equal() {
        sentence("6: As below: its number", this::equalNumber);
        sentence("6: As below: NONE when there are 100", this::equalWhenFull);
        sentence("6: As below: Throws as both", this::equalNotThere);
        sentence("6: As below: Throws as both, when there are 100", this::equalNotThereWhenFull);
    }

    private void roleBelow() {
        sentence("7: As below: its number", this::roleBelowNumber);
        sentence("7: As below: NONE when there are 100", this::roleBelowWhenFull);
        sentence("7: As below: Throws as both", this::roleBelowNotThere);
        sentence("7: As below: Throws as both, when there are 100", this::roleBelowNotThereWhenFull);
    }

    private void chain() {
        sentence("8: As below: its number", this::chainNumber);
        sentence("8: As below: NONE when there are 100", this::chainWhenFull);
        sentence("8: As below: Throws as both", this::chainNotThere);
        sentence("8: As below: Throws as both, when there are 100", this::chainNotThereWhenFull);
    }

    private void retract() {
        sentence("9: An axiom is taken back: true", this::takenBack);
        sentence("9: false when there is none such", this::noneSuch);
        sentence("9: or it was", this::tookBackBefore);
    }

    private void belowNumber() {
        TermServer x = names(2);
        due("the first one", x.below(2, 3), 1);
        due("the same again", x.below(2, 3), 2);
        due("of itself", x.below(2, 2), 3);
        due("of ALL and NOTHING", x.below(NOTHING, ALL), 4);
        x.retract(4);
        due("behind one taken back", x.below(3, 2), 5);
        due("told", x.count(2), 5);
        due("in force", x.count(3), 4);
    }

    private void belowWhenFull() {
        TermServer x = told(3, 99);
        due("the last one", x.below(2, 3), 100);
        due("it holds", x.isBelow(2, 3), true);
        due("full", x.below(3, 4), NONE);
        due("it says nothing", x.isBelow(3, 4), false);
        due("the same again", x.below(2, 3), NONE);
        x.retract(100);
        due("taking back makes no room", x.below(2, 3), NONE);
        due("it says nothing", x.isBelow(2, 3), false);
        due("told", x.count(2), 100);
        due("in force", x.count(3), 99);
    }

    private void belowNotThere() {
        TermServer x = asked();
        refusesOthers(x, "below 0 -", d -> x.below(ALL, d));
        refusesOthers(x, "below - 0", d -> x.below(d, ALL));
        refusesOthers(x, "below - -", d -> x.below(d, d));
        due("the next one", x.below(3, 2), 2);
        due("one that is made is there", x.below(x.name(), 4), 3);
    }

    /** As with both, arguments are looked at first: the document tells no limit to what is refused. */
    private void belowNotThereWhenFull() {
        TermServer x = told(2, 100);
        refusesOthers(x, "below 0 -", d -> x.below(ALL, d));
        refusesOthers(x, "below - 0", d -> x.below(d, ALL));
        due("but one that is there", x.below(2, 3), NONE);
    }

    private void equalNumber() {
        TermServer x = names(2);
        due("the first one", x.equal(2, 3), 1);
        due("the same again", x.equal(2, 3), 2);
        due("turned", x.equal(3, 2), 3);
        due("of itself", x.equal(2, 2), 4);
        x.retract(4);
        due("behind one taken back", x.equal(2, NOTHING), 5);
        due("told", x.count(2), 5);
    }

    private void equalWhenFull() {
        TermServer x = told(3, 99);
        due("the last one", x.equal(2, 3), 100);
        due("it holds", x.isBelow(3, 2), true);
        due("full", x.equal(3, 4), NONE);
        due("it says nothing", x.isBelow(3, 4), false);
        x.retract(100);
        due("taking back makes no room", x.equal(2, 3), NONE);
        due("it says nothing", x.isBelow(3, 2), false);
        due("told", x.count(2), 100);
        due("in force", x.count(3), 99);
    }

    private void equalNotThere() {
        TermServer x = asked();
        refusesOthers(x, "equal 0 -", d -> x.equal(ALL, d));
        refusesOthers(x, "equal - 0", d -> x.equal(d, ALL));
        refusesOthers(x, "equal - -", d -> x.equal(d, d));
        due("the next one", x.equal(3, 2), 2);
        due("one that is made is there", x.equal(x.name(), 4), 3);
    }

    private void equalNotThereWhenFull() {
        TermServer x = told(2, 100);
        refusesOthers(x, "equal 0 -", d -> x.equal(ALL, d));
        refusesOthers(x, "equal - 0", d -> x.equal(d, ALL));
        due("but one that is there", x.equal(2, 3), NONE);
    }

    private void roleBelowNumber() {
        TermServer x = new TermServer();
        due("the first one", x.roleBelow(0, 5), 1);
        due("the same again", x.roleBelow(0, 5), 2);
        due("turned", x.roleBelow(5, 0), 3);
        due("of itself", x.roleBelow(5, 5), 4);
        x.retract(4);
        due("behind one taken back", x.roleBelow(0, 0), 5);
        due("told", x.count(2), 5);
    }

    private void roleBelowWhenFull() {
        TermServer x = told(1, 99);
        int some = x.some(0, 2);
        due("the last one", x.roleBelow(0, 5), 100);
        due("it holds", x.has(some, 5, 2), true);
        due("full", x.roleBelow(0, 4), NONE);
        due("it says nothing", x.has(some, 4, 2), false);
        x.retract(100);
        due("taking back makes no room", x.roleBelow(0, 5), NONE);
        due("it says nothing", x.has(some, 5, 2), false);
        due("told", x.count(2), 100);
        due("in force", x.count(3), 99);
    }

    private void roleBelowNotThere() {
        TermServer x = asked();
        refusesOtherRoles(x, "roleBelow 0 -", r -> x.roleBelow(0, r));
        refusesOtherRoles(x, "roleBelow - 0", r -> x.roleBelow(r, 0));
        refusesOtherRoles(x, "roleBelow - -", r -> x.roleBelow(r, r));
        due("the next one", x.roleBelow(5, 0), 2);
        due("in a new object, too", new TermServer().roleBelow(0, 5), 1);
    }

    private void roleBelowNotThereWhenFull() {
        TermServer x = told(2, 100);
        refusesOtherRoles(x, "roleBelow 0 -", r -> x.roleBelow(0, r));
        refusesOtherRoles(x, "roleBelow - 0", r -> x.roleBelow(r, 0));
        due("but one that is there", x.roleBelow(0, 5), NONE);
    }

    private void chainNumber() {
        TermServer x = new TermServer();
        due("the first one", x.chain(0, 5, 3), 1);
        due("the same again", x.chain(0, 5, 3), 2);
        due("turned", x.chain(5, 0, 3), 3);
        due("of itself", x.chain(5, 5, 5), 4);
        x.retract(4);
        due("behind one taken back", x.chain(0, 0, 0), 5);
        due("told", x.count(2), 5);
    }

    private void chainWhenFull() {
        TermServer x = told(1, 99);
        int two = x.some(0, x.some(1, 2));
        due("the last one", x.chain(0, 1, 5), 100);
        due("it holds", x.has(two, 5, 2), true);
        due("full", x.chain(0, 1, 4), NONE);
        due("it says nothing", x.has(two, 4, 2), false);
        x.retract(100);
        due("taking back makes no room", x.chain(0, 1, 5), NONE);
        due("it says nothing", x.has(two, 5, 2), false);
        due("told", x.count(2), 100);
        due("in force", x.count(3), 99);
    }

    private void chainNotThere() {
        TermServer x = asked();
        refusesOtherRoles(x, "chain - 0 0", r -> x.chain(r, 0, 0));
        refusesOtherRoles(x, "chain 0 - 0", r -> x.chain(0, r, 0));
        refusesOtherRoles(x, "chain 0 0 -", r -> x.chain(0, 0, r));
        refusesOtherRoles(x, "chain - - -", r -> x.chain(r, r, r));
        due("the next one", x.chain(5, 5, 0), 2);
    }

    private void chainNotThereWhenFull() {
        TermServer x = told(2, 100);
        refusesOtherRoles(x, "chain - 0 0", r -> x.chain(r, 0, 0));
        refusesOtherRoles(x, "chain 0 - 0", r -> x.chain(0, r, 0));
        refusesOtherRoles(x, "chain 0 0 -", r -> x.chain(0, 0, r));
        due("but one that is there", x.chain(0, 1, 5), NONE);
    }

    private void takenBack() {
        TermServer x = ladder();
        due("before", x.isBelow(2, 102), true);
        due("the first one", x.retract(1), true);
        due("no longer below", x.isBelow(2, 3), false);
        due("others stay", x.isBelow(3, 102), true);
        due("the last one", x.retract(100), true);
        due("no longer below", x.isBelow(101, 102), false);
        due("others stay", x.isBelow(3, 101), true);
        due("in force", x.count(3), 98);
        due("told", x.count(2), 100);
        for (int a = 2; a < 100; a++) {
            due("axiom " + a, x.retract(a), true);
        }
        due("none in force", x.count(3), 0);
        due("pairs of a new object", x.count(4), 101 * 2 + 1);
    }

    private void noneSuch() {
        TermServer fresh = new TermServer();
        TermServer one = told(1, 1);
        TermServer full = told(1, 100);
        for (int axiom : NO_AXIOMS) {
            due("of a new object " + axiom, fresh.retract(axiom), false);
            due("of one " + axiom, one.retract(axiom), false);
            due("of a hundred " + axiom, full.retract(axiom), false);
        }
        due("the first one of a new object", fresh.retract(1), false);
        due("the second one of one", one.retract(2), false);
        due("all stay in force", full.count(3), 100);
        due("the only one stays in force", one.count(3), 1);
        due("none in force", fresh.count(3), 0);
        due("told later it is there", fresh.below(NOTHING, ALL), 1);
        due("so it can be taken back", fresh.retract(1), true);
    }

    private void tookBackBefore() {
        TermServer x = told(2, 3);
        x.below(2, 3);
        due("once", x.retract(4), true);
        due("twice", x.retract(4), false);
        due("in force", x.count(3), 3);
        due("told again it has another number", x.below(2, 3), 5);
        due("the earlier one stays taken back", x.retract(4), false);
        due("the later one holds", x.isBelow(2, 3), true);
        due("once", x.retract(5), true);
        due("twice", x.retract(5), false);
        due("in force", x.count(3), 3);
    }
}
