/** The boundaries that promises 10 to 15, 18 and 19 name: those that ask and leave all as it was. */
public final class AskingEdgesTest extends Edges {
    private static final int[] NO_PLACES = {
        -1, -2, 158, 159, 160, 256, 65536, Integer.MAX_VALUE, Integer.MIN_VALUE, Integer.MIN_VALUE + 1,
    };

    private AskingEdgesTest() {
        super("AskingEdgesTest");
    }

    public static void main(String[] args) {
        AskingEdgesTest test = new AskingEdgesTest();
        test.isBelow();
        test.supers();
        test.sup();
        test.direct();
        test.twin();
        test.common();
        test.has();
        test.count();
        test.end();
    }

    private void isBelow() {
        sentence("10: Whether d is below e", this::belowAtTheEnds);
        sentence("10: IndexOutOfBoundsException when one is not there", this::isBelowNotThere);
    }

    private void supers() {
        sentence("11: How many names are above a description", this::namesAbove);
        sentence("11: (itself too, if it is a name)", this::itselfIfName);
        sentence("11: IndexOutOfBoundsException when it is not there", this::supersNotThere);
    }

    private void sup() {
        sentence("12: The i-th of these (from 0, by their numbers)", this::supByNumbers);
        sentence("12: NONE for none", this::supNone);
        sentence("12: Throws as supers", this::supNotThere);
    }

    private void direct() {
        sentence("13: Whether d is strictly below e", this::directIsStrict);
        sentence("13: no description that was made is strictly above d and strictly below e", this::directBetween);
        sentence("13: (nor ALL, NOTHING)", this::directOfAllAndNothing);
        sentence("13: Throws as isBelow", this::directNotThere);
    }

    private void twin() {
        sentence("14: The least description that is equal to d", this::leastTwin);
        sentence("14: Throws as supers", this::twinNotThere);
    }

    private void common() {
        sentence("15: Of the names above both d and e", this::commonNames);
        sentence("15: those of which no other such name is strictly below", this::commonLowest);
        sentence("15: that are the least one of the names equal to them", this::commonLeastOfEqual);
        sentence("15: the i-th (from 0, by numbers)", this::commonByNumbers);
        sentence("15: NONE for none", this::commonNone);
        sentence("15: Throws as isBelow", this::commonNotThere);
    }

    private void has() {
        sentence("18: Whether x is below SOME r of y", this::hasAtTheEnds);
        sentence("18: which need not have been made", this::hasNotMade);
        sentence("18: IndexOutOfBoundsException when x is not there", this::hasOfNoFirst);
        sentence("18: IndexOutOfBoundsException when r is not there", this::hasOfNoRole);
        sentence("18: IndexOutOfBoundsException when y is not there", this::hasOfNoSecond);
    }

    private void count() {
        sentence("19: what = 0 descriptions", this::countDescriptions);
        sentence("19: 1 names", this::countNames);
        sentence("19: 2 axioms that were told", this::countTold);
        sentence("19: 3 axioms in force", this::countInForce);
        sentence("19: 4 pairs of different descriptions of which the first is below the second", this::countPairs);
        sentence("19: 5 descriptions that are below NOTHING (it too)", this::countEmpty);
        sentence("19: 6 classes of equal descriptions", this::countClasses);
        sentence("19: NONE for others", this::countOthers);
    }

    private void belowAtTheEnds() {
        TermServer x = ladder();
        due("the whole way", x.isBelow(2, 102), true);
        due("not back", x.isBelow(102, 2), false);
        due("the first one, itself", x.isBelow(2, 2), true);
        due("ALL, itself", x.isBelow(ALL, ALL), true);
        due("NOTHING, itself", x.isBelow(NOTHING, NOTHING), true);
        due("NOTHING, a name", x.isBelow(NOTHING, 2), true);
        due("a name, NOTHING", x.isBelow(2, NOTHING), false);
        due("a name, ALL", x.isBelow(102, ALL), true);
        due("ALL, a name", x.isBelow(ALL, 102), false);
        TermServer full = fullOfNames();
        full.below(158, 159);
        due("the last one of a full object", full.isBelow(158, 159), true);
        due("not back", full.isBelow(159, 158), false);
        due("the last one, itself", full.isBelow(159, 159), true);
    }

    private void isBelowNotThere() {
        TermServer x = asked();
        refusesOthers(x, "isBelow 0 -", d -> x.isBelow(ALL, d));
        refusesOthers(x, "isBelow - 0", d -> x.isBelow(d, ALL));
        refusesOthers(x, "isBelow 1 -", d -> x.isBelow(NOTHING, d));
        refusesOthers(x, "isBelow - -", d -> x.isBelow(d, d));
        TermServer full = fullOfNames();
        refusesOthers(full, "isBelow 1 - of a full object", d -> full.isBelow(NOTHING, d));
    }

    private void namesAbove() {
        TermServer x = new TermServer();
        due("no names, ALL", x.supers(ALL), 0);
        due("no names, NOTHING", x.supers(NOTHING), 0);
        TermServer full = fullOfNames();
        due("all names, NOTHING", full.supers(NOTHING), 158);
        due("all names, ALL", full.supers(ALL), 0);
        full.below(ALL, 159);
        due("a name that is all, ALL", full.supers(ALL), 1);
        due("a name that is all, NOTHING", full.supers(NOTHING), 158);
        full.below(ALL, NOTHING);
        due("in no world, ALL", full.supers(ALL), 158);
        due("in no world, the last one", full.supers(159), 158);
        TermServer y = names(2);
        int both = y.both(2, 3);
        y.some(0, 2);
        due("none but names, NOTHING", y.supers(NOTHING), 2);
        due("none but names, both", y.supers(both), 2);
        y.equal(2, both);
        due("none but names, an equal one", y.supers(2), 2);
    }

    private void itselfIfName() {
        TermServer x = names(2);
        due("a name", x.supers(2), 1);
        due("it is itself", x.sup(2, 0), 2);
        due("a both is none", x.supers(x.both(ALL, ALL)), 0);
        due("a some is none", x.supers(x.some(0, 2)), 0);
        x.equal(2, 3);
        due("its equal one too", x.supers(3), 2);
        TermServer full = fullOfNames();
        due("the last one", full.supers(159), 1);
        due("it is itself", full.sup(159, 0), 159);
    }

    private void supersNotThere() {
        TermServer x = asked();
        refusesOthers(x, "supers", x::supers);
        TermServer full = fullOfNames();
        refusesOthers(full, "supers of a full object", full::supers);
        TermServer fresh = new TermServer();
        refusesOthers(fresh, "supers of a new object", fresh::supers);
    }

    private void supByNumbers() {
        TermServer x = names(4);
        x.some(0, 2);
        int late = x.name();
        x.below(4, late);
        x.below(4, 2);
        x.below(late, 5);
        due("the first one", x.sup(4, 0), 2);
        due("the second one", x.sup(4, 1), 4);
        due("the third one", x.sup(4, 2), 5);
        due("the last one", x.sup(4, 3), late);
        TermServer full = fullOfNames();
        for (int i = 0; i < 158; i++) {
            due("of NOTHING " + i, full.sup(NOTHING, i), i + 2);
        }
        due("behind the last one", full.sup(NOTHING, 158), NONE);
    }

    private void supNone() {
        TermServer x = ladder();
        due("behind the last one", x.sup(100, 3), NONE);
        due("of ALL", x.sup(ALL, 0), NONE);
        due("of a some", x.sup(x.some(0, 2), 0), NONE);
        for (int i : NO_PLACES) {
            due("of NOTHING at " + i, x.sup(NOTHING, i), NONE);
            due("of a name at " + i, x.sup(102, i), NONE);
            due("of a new object at " + i, new TermServer().sup(NOTHING, i), NONE);
        }
        due("of a new object at 0", new TermServer().sup(NOTHING, 0), NONE);
    }

    private void supNotThere() {
        TermServer x = asked();
        refusesOthers(x, "sup - 0", d -> x.sup(d, 0));
        refusesOthers(x, "sup - -1", d -> x.sup(d, -1));
        refusesOthers(x, "sup - far off", d -> x.sup(d, Integer.MAX_VALUE));
    }

    private void directIsStrict() {
        TermServer x = names(3);
        due("itself", x.direct(2, 2), false);
        due("not below", x.direct(2, 3), false);
        x.below(2, 3);
        due("below", x.direct(2, 3), true);
        due("above", x.direct(3, 2), false);
        x.equal(3, 4);
        due("below an equal one", x.direct(2, 4), true);
        due("equal", x.direct(3, 4), false);
        x.below(ALL, NOTHING);
        due("in no world", x.direct(2, 3), false);
        due("in no world", x.direct(NOTHING, ALL), false);
    }

    private void directBetween() {
        TermServer x = names(4);
        x.below(2, 3);
        x.below(3, 4);
        due("a name between", x.direct(2, 4), false);
        due("none between", x.direct(2, 3), true);
        int both = x.both(3, 5);
        x.below(2, 5);
        due("a both between", x.direct(2, 3), false);
        due("up to it", x.direct(2, both), true);
        due("on from it", x.direct(both, 3), true);
        int led = x.some(0, 2);
        int upper = x.some(0, 4);
        due("no description between though a name is", x.direct(led, upper), true);
        x.some(0, 3);
        due("a some between", x.direct(led, upper), false);
        TermServer y = names(3);
        y.below(2, 3);
        y.equal(4, 2);
        due("one equal to the lower", y.direct(2, 3), true);
        y.retract(2);
        y.equal(4, 3);
        due("one equal to the upper", y.direct(2, 3), true);
        y.retract(3);
        y.below(2, 4);
        due("one beside", y.direct(2, 3), true);
        y.below(4, 3);
        due("the last one between", y.direct(2, 3), false);
    }

    private void directOfAllAndNothing() {
        TermServer x = new TermServer();
        due("NOTHING and ALL alone", x.direct(NOTHING, ALL), true);
        due("turned", x.direct(ALL, NOTHING), false);
        x.name();
        due("a name between", x.direct(NOTHING, ALL), false);
        due("NOTHING and a name", x.direct(NOTHING, 2), true);
        due("a name and ALL", x.direct(2, ALL), true);
        x.equal(2, NOTHING);
        due("a name that is nothing is not between", x.direct(NOTHING, ALL), true);
        due("it is as NOTHING", x.direct(2, ALL), true);
        x.retract(1);
        x.equal(2, ALL);
        due("a name that is all is not between", x.direct(NOTHING, ALL), true);
        due("it is as ALL", x.direct(NOTHING, 2), true);
        due("but not below it", x.direct(2, ALL), false);
    }

    private void directNotThere() {
        TermServer x = asked();
        refusesOthers(x, "direct 1 -", d -> x.direct(NOTHING, d));
        refusesOthers(x, "direct - 0", d -> x.direct(d, ALL));
        refusesOthers(x, "direct - -", d -> x.direct(d, d));
    }

    private void leastTwin() {
        TermServer x = names(3);
        due("itself", x.twin(2), 2);
        due("ALL", x.twin(ALL), ALL);
        due("NOTHING", x.twin(NOTHING), NOTHING);
        int both = x.both(3, 4);
        int turned = x.both(4, 3);
        due("a lower number", x.twin(turned), both);
        due("not a higher one", x.twin(both), both);
        x.equal(turned, 2);
        due("the least of three", x.twin(turned), 2);
        due("the least of three", x.twin(both), 2);
        due("the least one itself", x.twin(2), 2);
        x.below(2, NOTHING);
        due("nothing", x.twin(turned), NOTHING);
        x.below(ALL, 2);
        due("in no world a name", x.twin(4), ALL);
        due("in no world NOTHING", x.twin(NOTHING), ALL);
        TermServer full = fullOfNames();
        due("the last one", full.twin(159), 159);
        full.equal(159, 158);
        due("the last one and another one", full.twin(159), 158);
    }

    private void twinNotThere() {
        TermServer x = asked();
        refusesOthers(x, "twin", x::twin);
        TermServer full = fullOfNames();
        refusesOthers(full, "twin of a full object", full::twin);
    }

    private void commonNames() {
        TermServer x = names(5);
        due("none", x.common(2, 3, 0), NONE);
        x.below(2, 4);
        due("above one alone", x.common(2, 3, 0), NONE);
        due("above one alone, turned", x.common(3, 2, 0), NONE);
        x.below(3, 4);
        due("above both", x.common(2, 3, 0), 4);
        due("itself", x.common(2, 2, 0), 2);
        due("one above the other", x.common(4, 3, 0), 4);
        int both = x.both(5, 6);
        x.below(2, both);
        x.below(3, both);
        due("no both", x.common(2, 3, 0), 4);
        due("its parts", x.common(2, 3, 1), 5);
        due("its parts", x.common(2, 3, 2), 6);
        due("no more", x.common(2, 3, 3), NONE);
        due("of descriptions", x.common(both, 2, 1), 6);
    }

    private void commonLowest() {
        TermServer x = names(6);
        for (int lower = 2; lower <= 3; lower++) {
            x.below(lower, 4);
            x.below(lower, 5);
        }
        x.below(5, 4);
        due("the lower of two", x.common(2, 3, 0), 5);
        due("not the higher one", x.common(2, 3, 1), NONE);
        x.below(6, 5);
        x.below(2, 6);
        due("a lower one, but not such", x.common(2, 3, 0), 5);
        int both = x.both(5, 7);
        x.below(2, both);
        x.below(3, both);
        x.below(7, 5);
        due("a lower name of a higher number", x.common(2, 3, 0), 7);
        due("and that alone", x.common(2, 3, 1), NONE);
        TermServer y = names(3);
        int lower = y.both(4, y.some(0, ALL));
        y.below(2, lower);
        y.below(3, lower);
        due("a lower one, but no name", y.common(2, 3, 0), 4);
    }

    private void commonLeastOfEqual() {
        TermServer x = names(2);
        int both = x.both(2, 3);
        int first = x.name();
        int second = x.name();
        x.equal(first, second);
        x.equal(both, second);
        due("the least of the names", x.common(both, first, 0), first);
        due("no other one", x.common(both, second, 1), NONE);
        x.below(ALL, first);
        due("though ALL is less", x.common(ALL, 2, 0), 2);
        due("in one class", x.common(ALL, ALL, 1), NONE);
        TermServer y = fullOfNames();
        y.below(ALL, NOTHING);
        due("in no world the least of all", y.common(159, ALL, 0), 2);
        due("in no world no other one", y.common(159, ALL, 1), NONE);
    }

    private void commonByNumbers() {
        TermServer x = names(6);
        for (int n = 7; n >= 4; n--) {
            x.below(2, n);
            x.below(3, n);
        }
        for (int i = 0; i < 4; i++) {
            due("at " + i, x.common(2, 3, i), 4 + i);
            due("turned at " + i, x.common(3, 2, i), 4 + i);
        }
        due("behind the last one", x.common(2, 3, 4), NONE);
        TermServer full = fullOfNames();
        for (int i = 0; i < 158; i++) {
            due("of NOTHING twice at " + i, full.common(NOTHING, NOTHING, i), 2 + i);
        }
        due("behind the last one", full.common(NOTHING, NOTHING, 158), NONE);
    }

    private void commonNone() {
        TermServer x = names(3);
        x.below(2, 4);
        x.below(3, 4);
        due("one is there", x.common(2, 3, 0), 4);
        for (int i : NO_PLACES) {
            due("at " + i, x.common(2, 3, i), NONE);
            due("of NOTHING twice at " + i, x.common(NOTHING, NOTHING, i), NONE);
        }
        due("with ALL", x.common(ALL, 2, 0), NONE);
        due("with ALL, turned", x.common(2, ALL, 0), NONE);
        due("of a new object", new TermServer().common(NOTHING, NOTHING, 0), NONE);
    }

    private void commonNotThere() {
        TermServer x = asked();
        refusesOthers(x, "common 0 - 0", d -> x.common(ALL, d, 0));
        refusesOthers(x, "common - 0 0", d -> x.common(d, ALL, 0));
        refusesOthers(x, "common - - 0", d -> x.common(d, d, 0));
        refusesOthers(x, "common 1 - -1", d -> x.common(NOTHING, d, -1));
        refusesOthers(x, "common - 1 far off", d -> x.common(d, NOTHING, Integer.MAX_VALUE));
    }

    private void hasAtTheEnds() {
        TermServer x = names(2);
        int some = x.some(5, 2);
        due("made", x.has(some, 5, 2), true);
        due("ALL is above what it leads to", x.has(some, 5, ALL), true);
        due("NOTHING is not", x.has(some, 5, NOTHING), false);
        due("another one is not", x.has(some, 5, 3), false);
        due("another role", x.has(some, 0, 2), false);
        due("ALL has none", x.has(ALL, 5, ALL), false);
        due("NOTHING has all", x.has(NOTHING, 0, NOTHING), true);
        due("a name has none", x.has(2, 5, ALL), false);
        x.below(2, 3);
        due("above what it leads to", x.has(some, 5, 3), true);
        x.below(3, NOTHING);
        due("what leads to nothing has all", x.has(some, 0, NOTHING), true);
        x.below(ALL, some);
        due("in no world ALL has all", x.has(ALL, 1, NOTHING), true);
    }

    private void hasNotMade() {
        TermServer x = names(156);
        int some = x.some(0, 2);
        x.below(2, 3);
        x.roleBelow(0, 1);
        due("of another description", x.has(some, 0, 3), true);
        due("of another role", x.has(some, 1, 2), true);
        due("of both", x.has(some, 1, 3), true);
        due("not of a third one", x.has(some, 1, 4), false);
        due("none was made", x.count(0), 159);
        due("the last one", x.some(0, 3), 159);
        due("not made and no room for it", x.has(some, 1, 3), true);
        due("not made and not so", x.has(159, 2, 3), false);
        due("of the last one", x.has(some, 0, 159), false);
        due("none was made", x.count(0), 160);
        due("nor can be", x.some(1, 3), NONE);
    }

    private void hasOfNoFirst() {
        TermServer x = asked();
        refusesOthers(x, "has - 0 0", d -> x.has(d, 0, ALL));
        refusesOthers(x, "has - 5 1", d -> x.has(d, 5, NOTHING));
    }

    private void hasOfNoRole() {
        TermServer x = asked();
        refusesOtherRoles(x, "has 0 - 0", r -> x.has(ALL, r, ALL));
        refusesOtherRoles(x, "has 1 - 0", r -> x.has(NOTHING, r, ALL));
    }

    private void hasOfNoSecond() {
        TermServer x = asked();
        refusesOthers(x, "has 0 0 -", d -> x.has(ALL, 0, d));
        refusesOthers(x, "has 1 5 -", d -> x.has(NOTHING, 5, d));
        TermServer full = fullOfNames();
        refusesOthers(full, "has 1 0 - of a full object", d -> full.has(NOTHING, 0, d));
    }

    private void countDescriptions() {
        TermServer x = new TermServer();
        due("least", x.count(0), 2);
        x.name();
        x.both(2, 2);
        x.some(0, 2);
        x.both(2, 2);
        due("of all kinds", x.count(0), 5);
        TermServer full = fullOfNames();
        due("most", full.count(0), 160);
        full.name();
        due("and no more", full.count(0), 160);
    }

    private void countNames() {
        TermServer x = new TermServer();
        due("least", x.count(1), 0);
        x.both(ALL, NOTHING);
        x.some(0, ALL);
        due("no names", x.count(1), 0);
        x.name();
        due("one name", x.count(1), 1);
        TermServer full = fullOfNames();
        due("most", full.count(1), 158);
        full.name();
        due("and no more", full.count(1), 158);
    }

    private void countTold() {
        TermServer x = names(2);
        due("least", x.count(2), 0);
        x.below(2, 3);
        x.equal(2, 3);
        x.roleBelow(0, 1);
        x.chain(0, 1, 2);
        due("of all kinds", x.count(2), 4);
        x.retract(1);
        due("also those taken back", x.count(2), 4);
        TermServer full = ladder();
        due("most", full.count(2), 100);
        full.below(2, 3);
        due("and no more", full.count(2), 100);
    }

    private void countInForce() {
        TermServer x = names(2);
        due("least", x.count(3), 0);
        x.below(2, 3);
        x.equal(2, 3);
        x.roleBelow(0, 1);
        x.chain(0, 1, 2);
        due("of all kinds", x.count(3), 4);
        x.retract(1);
        x.retract(1);
        x.retract(5);
        due("without that taken back", x.count(3), 3);
        TermServer full = ladder();
        due("most", full.count(3), 100);
        full.below(2, 3);
        due("and no more", full.count(3), 100);
        full.why(2, 102);
        due("asking why takes none back", full.count(3), 100);
    }

    private void countPairs() {
        due("least", new TermServer().count(4), 1);
        TermServer x = names(2);
        due("ALL above, NOTHING below", x.count(4), 5);
        x.below(2, 3);
        due("one more", x.count(4), 6);
        x.below(3, 2);
        due("equal ones make two", x.count(4), 7);
        TermServer full = fullOfNames();
        due("of a full object", full.count(4), 158 + 159);
        full.below(ALL, NOTHING);
        due("most", full.count(4), 160 * 159);
        full.retract(1);
        due("of a full object again", full.count(4), 158 + 159);
        due("of a ladder", ladder().count(4), 101 * 100 / 2 + 101 * 2 + 1);
    }

    private void countEmpty() {
        due("least", new TermServer().count(5), 1);
        TermServer x = names(2);
        x.both(2, 3);
        x.some(0, 2);
        due("NOTHING alone", x.count(5), 1);
        x.below(2, NOTHING);
        due("what stands for nothing", x.count(5), 4);
        x.retract(1);
        due("NOTHING alone again", x.count(5), 1);
        TermServer full = fullOfNames();
        due("of a full object", full.count(5), 1);
        full.below(ALL, NOTHING);
        due("most", full.count(5), 160);
    }

    private void countClasses() {
        due("of a new object", new TermServer().count(6), 2);
        TermServer x = names(2);
        x.both(2, 3);
        due("each its own", x.count(6), 5);
        x.both(3, 2);
        due("one that is equal", x.count(6), 5);
        x.both(2, ALL);
        due("another one that is equal", x.count(6), 5);
        TermServer full = fullOfNames();
        due("most", full.count(6), 160);
        full.equal(158, 159);
        due("one less", full.count(6), 159);
        full.below(ALL, NOTHING);
        due("least", full.count(6), 1);
    }

    private void countOthers() {
        TermServer x = ladder();
        int[] others = {-1, 7, 8, 256, 65536, -256, Integer.MAX_VALUE, Integer.MIN_VALUE, Integer.MIN_VALUE + 6};
        for (int what : others) {
            due("what " + what, x.count(what), NONE);
            due("what " + what + " of a new object", new TermServer().count(what), NONE);
        }
    }
}
