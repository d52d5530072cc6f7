/** Each promise of the document by itself: ordinary inputs, the edges that it names, wrong inputs. */
public final class PromisesTest {
    private static final int NONE = TermServer.NONE;
    private static final int ALL = 0;
    private static final int NOTHING = 1;
    private static final int[] NO_ROLES = {-1, 6, Integer.MIN_VALUE, Integer.MAX_VALUE};

    private static final Checks CHECKS = new Checks("PromisesTest");

    public static void main(String[] args) {
        newObject();
        name();
        nameAtTheLimit();
        both();
        bothAtTheLimit();
        some();
        someAtTheLimit();
        below();
        belowAtTheLimit();
        equal();
        roleBelow();
        chain();
        retract();
        isBelow();
        isBelowOfNothing();
        isBelowInNoWorld();
        isBelowOfLaterDescriptions();
        supers();
        sup();
        direct();
        twin();
        common();
        why();
        whyLeavesOutFromTheLast();
        whyOfManyReasons();
        reason();
        has();
        count();
        countOfEmptyOnes();
        CHECKS.end();
    }

    private static void newObject() {
        TermServer x = new TermServer();
        due("1 descriptions", x.count(0), 2);
        due("1 names", x.count(1), 0);
        due("1 axioms told", x.count(2), 0);
        due("1 axioms in force", x.count(3), 0);
        due("1 pairs", x.count(4), 1);
        due("1 empty ones", x.count(5), 1);
        due("1 classes", x.count(6), 2);
        due("1 ALL below NOTHING", x.isBelow(ALL, NOTHING), false);
        due("1 NOTHING below ALL", x.isBelow(NOTHING, ALL), true);
        due("1 NOTHING directly below ALL", x.direct(NOTHING, ALL), true);
        due("1 reason", x.reason(0), NONE);
        due("1 retract", x.retract(1), false);
        TermServer y = new TermServer();
        x.name();
        x.below(2, NOTHING);
        due("1 objects are apart, descriptions", y.count(0), 2);
        due("1 objects are apart, axioms", y.count(2), 0);
    }

    private static void name() {
        TermServer x = new TermServer();
        due("2 first name", x.name(), 2);
        due("2 second name", x.name(), 3);
        x.both(2, 3);
        due("2 name behind a both", x.name(), 5);
        due("2 names are apart", x.isBelow(2, 5), false);
        due("2 names", x.count(1), 3);
        due("2 name below ALL", x.isBelow(5, ALL), true);
        due("2 name is not all", x.isBelow(ALL, 5), false);
        due("2 name is not nothing", x.isBelow(5, NOTHING), false);
    }

    private static void nameAtTheLimit() {
        TermServer x = new TermServer();
        for (int d = 2; d < 160; d++) {
            due("2 name " + d, x.name(), d);
        }
        due("2 the 159th name", x.name(), NONE);
        due("2 again", x.name(), NONE);
        due("2 descriptions", x.count(0), 160);
        due("2 names", x.count(1), 158);
        due("2 the last one is there", x.isBelow(159, 159), true);
        refused("2 the next one is not", () -> x.supers(160));
    }

    private static void both() {
        TermServer x = names(3);
        due("3 both 2 3", x.both(2, 3), 5);
        due("3 both 3 2 is another one", x.both(3, 2), 6);
        due("3 both 2 3 again", x.both(2, 3), 5);
        due("3 both 3 2 again", x.both(3, 2), 6);
        due("3 both 2 2", x.both(2, 2), 7);
        due("3 both ALL ALL", x.both(ALL, ALL), 8);
        due("3 both NOTHING 2", x.both(NOTHING, 2), 9);
        due("3 both of boths", x.both(5, 4), 10);
        due("3 below the first", x.isBelow(5, 2), true);
        due("3 below the second", x.isBelow(5, 3), true);
        due("3 not below a third", x.isBelow(5, 4), false);
        due("3 parts are not below", x.isBelow(2, 5), false);
        due("3 both ways are equal", x.twin(6), 5);
        due("3 of one twice", x.twin(7), 2);
        due("3 of ALL", x.twin(8), ALL);
        due("3 of NOTHING", x.twin(9), NOTHING);
        due("3 parts of parts", x.isBelow(10, 2), true);
        x.below(4, 2);
        x.below(4, 3);
        due("3 what is below both parts", x.isBelow(4, 6), true);
        due("3 both has no name", x.supers(10), 3);
        refusedPairs(x, "3 both", x::both);
    }

    private static void bothAtTheLimit() {
        TermServer x = names(3);
        int last = x.both(2, 3);
        int descriptions = x.count(0);
        for (int d = descriptions; d < 160; d++) {
            x.name();
        }
        due("3 made already, at the limit", x.both(2, 3), last);
        due("3 new, at the limit", x.both(3, 2), NONE);
        due("3 descriptions", x.count(0), 160);
        refused("3 one not there, at the limit", () -> x.both(160, 2));
        refused("3 one not there, at the limit", () -> x.both(2, 160));
    }

    private static void some() {
        TermServer x = names(2);
        due("4 some 0 2", x.some(0, 2), 4);
        due("4 some 5 2", x.some(5, 2), 5);
        due("4 some 0 3", x.some(0, 3), 6);
        due("4 some 0 2 again", x.some(0, 2), 4);
        due("4 some of some", x.some(0, 4), 7);
        due("4 some of ALL", x.some(0, ALL), 8);
        due("4 some of NOTHING", x.some(0, NOTHING), 9);
        due("4 other roles are apart", x.isBelow(4, 5), false);
        due("4 below some of ALL", x.isBelow(4, 8), true);
        due("4 some of ALL is not all", x.isBelow(ALL, 8), false);
        due("4 not below what it leads to", x.isBelow(4, 2), false);
        due("4 some of NOTHING is nothing", x.twin(9), NOTHING);
        x.below(2, 3);
        due("4 what it leads to rises", x.isBelow(4, 6), true);
        due("4 and not falls", x.isBelow(6, 4), false);
        x.both(4, 6);
        x.both(2, 3);
        x.some(0, 11);
        due("4 some of both is below both somes", x.isBelow(12, 10), true);
        for (int r : NO_ROLES) {
            refused("4 some of role " + r, () -> x.some(r, 2));
        }
        refused("4 some of 13", () -> x.some(0, 13));
        refused("4 some of -1", () -> x.some(0, -1));
        due("4 nothing was made", x.count(0), 13);
        TermServer y = names(2);
        due("4 one pair for both is not told", y.isBelow(y.both(y.some(0, 2), y.some(0, 3)), y.some(0, y.both(2, 3))), false);
    }

    private static void someAtTheLimit() {
        TermServer x = names(1);
        int last = x.some(1, 2);
        for (int d = x.count(0); d < 160; d++) {
            x.name();
        }
        due("4 made already, at the limit", x.some(1, 2), last);
        due("4 new, at the limit", x.some(2, 2), NONE);
        due("4 of the last one, at the limit", x.some(1, 159), NONE);
        refused("4 not there, at the limit", () -> x.some(1, 160));
        refused("4 role not there, at the limit", () -> x.some(6, 2));
    }

    private static void below() {
        TermServer x = names(4);
        due("5 first axiom", x.below(2, 3), 1);
        due("5 second axiom", x.below(3, 4), 2);
        due("5 the same axiom again is another one", x.below(2, 3), 3);
        due("5 below", x.isBelow(2, 3), true);
        due("5 and on", x.isBelow(2, 4), true);
        due("5 not back", x.isBelow(3, 2), false);
        due("5 not others", x.isBelow(2, 5), false);
        due("5 of itself", x.below(5, 5), 4);
        due("5 told", x.count(2), 4);
        due("5 ALL below a name", x.below(ALL, 5), 5);
        due("5 all are below it", x.isBelow(2, 5), true);
        refusedPairs(x, "5 below", x::below);
        due("5 none told when refused", x.count(2), 5);
    }

    private static void belowAtTheLimit() {
        TermServer x = names(2);
        for (int a = 1; a <= 99; a++) {
            due("5 axiom " + a, x.below(2, 2), a);
        }
        due("5 taken back", x.retract(7), true);
        due("5 the 100th", x.below(2, 3), 100);
        due("5 those taken back count", x.below(2, 3), NONE);
        due("6 equal at the limit", x.equal(2, 3), NONE);
        due("7 roleBelow at the limit", x.roleBelow(0, 1), NONE);
        due("8 chain at the limit", x.chain(0, 1, 2), NONE);
        refused("5 not there, at the limit", () -> x.below(2, 4));
        refused("6 not there, at the limit", () -> x.equal(4, 2));
        refused("7 not there, at the limit", () -> x.roleBelow(0, 6));
        refused("8 not there, at the limit", () -> x.chain(0, 1, 6));
        due("5 told", x.count(2), 100);
        due("5 in force", x.count(3), 99);
        due("5 the last one counts", x.isBelow(2, 3), true);
        due("9 the last one taken back", x.retract(100), true);
        due("9 there is no 101st", x.retract(101), false);
        due("5 still no room", x.below(2, 3), NONE);
        due("5 no longer below", x.isBelow(2, 3), false);
    }

    private static void equal() {
        TermServer x = names(4);
        x.both(3, 4);
        due("6 equal", x.equal(2, 6), 1);
        due("6 forth", x.isBelow(2, 4), true);
        due("6 back", x.isBelow(6, 2), true);
        x.below(5, 3);
        x.below(5, 4);
        due("6 what is below both is below it", x.isBelow(5, 2), true);
        due("6 not the other way", x.isBelow(2, 5), false);
        refusedPairs(x, "6 equal", x::equal);
        due("6 told", x.count(2), 3);
        due("6 taken back", x.retract(1), true);
        due("6 neither forth", x.isBelow(2, 4), false);
        due("6 nor back", x.isBelow(6, 2), false);
    }

    private static void roleBelow() {
        TermServer x = names(2);
        int lower = x.some(0, 2);
        int middle = x.some(1, 2);
        int upper = x.some(5, 2);
        due("7 roleBelow", x.roleBelow(0, 1), 1);
        due("7 rises", x.isBelow(lower, middle), true);
        due("7 not falls", x.isBelow(middle, lower), false);
        due("7 another", x.roleBelow(1, 5), 2);
        due("7 rises twice", x.isBelow(lower, upper), true);
        due("7 of itself", x.roleBelow(3, 3), 3);
        due("7 descriptions stay apart", x.isBelow(2, 3), false);
        for (int r : NO_ROLES) {
            refused("7 roleBelow " + r + " 0", () -> x.roleBelow(r, 0));
            refused("7 roleBelow 0 " + r, () -> x.roleBelow(0, r));
        }
        due("7 told", x.count(2), 3);
        x.retract(1);
        due("7 taken back", x.isBelow(lower, upper), false);
        due("7 the other one stays", x.isBelow(middle, upper), true);
    }

    private static void chain() {
        TermServer x = names(3);
        int inner = x.some(1, 4);
        x.below(2, x.some(0, 3));
        x.below(3, inner);
        int outer = x.some(2, 4);
        due("8 not yet", x.isBelow(2, outer), false);
        due("8 chain", x.chain(0, 1, 2), 3);
        due("8 one behind the other", x.isBelow(2, outer), true);
        due("8 the order counts", x.has(2, 3, 4), false);
        due("8 other chain", x.chain(1, 0, 3), 4);
        due("8 the other order does not follow", x.has(2, 3, 4), false);
        due("8 written out", x.isBelow(x.some(0, inner), outer), true);
        for (int r : NO_ROLES) {
            refused("8 chain " + r + " 0 0", () -> x.chain(r, 0, 0));
            refused("8 chain 0 " + r + " 0", () -> x.chain(0, r, 0));
            refused("8 chain 0 0 " + r, () -> x.chain(0, 0, r));
        }
        due("8 told", x.count(2), 4);
        x.retract(3);
        due("8 taken back", x.isBelow(2, outer), false);
        chainOfOneRole();
    }

    private static void chainOfOneRole() {
        TermServer x = names(12);
        for (int d = 2; d < 13; d++) {
            x.below(d, x.some(4, d + 1));
        }
        due("8 two steps are not one", x.has(2, 4, 4), false);
        x.chain(4, 4, 4);
        due("8 all steps are one", x.has(2, 4, 13), true);
        due("8 not backwards", x.has(13, 4, 2), false);
        x.roleBelow(4, 3);
        due("8 and in the role above", x.has(2, 3, 13), true);
        due("8 why", x.why(2, x.some(4, 13)), 12);
    }

    private static void retract() {
        TermServer x = names(3);
        x.below(2, 3);
        x.below(3, 4);
        x.below(2, 3);
        due("9 none such", x.retract(0), false);
        due("9 none such", x.retract(4), false);
        due("9 none such", x.retract(-1), false);
        due("9 none such", x.retract(Integer.MIN_VALUE), false);
        due("9 none such", x.retract(Integer.MAX_VALUE), false);
        due("9 before", x.isBelow(2, 4), true);
        due("9 one of two alike", x.retract(1), true);
        due("9 the other one stays", x.isBelow(2, 4), true);
        due("9 once more", x.retract(1), false);
        due("9 in force", x.count(3), 2);
        due("9 told", x.count(2), 3);
        due("9 the other one", x.retract(3), true);
        due("9 gone", x.isBelow(2, 4), false);
        due("9 the rest stays", x.isBelow(3, 4), true);
        due("9 a new one has a new number", x.below(2, 4), 4);
        due("9 told behind it", x.isBelow(2, 4), true);
        due("9 before any question", unasked(), false);
    }

    private static boolean unasked() {
        TermServer x = names(2);
        x.below(2, 3);
        x.retract(1);
        return x.isBelow(2, 3);
    }

    private static void isBelow() {
        TermServer x = names(4);
        int parent = 2;
        int person = 3;
        int doctor = 4;
        int happy = 5;
        x.equal(parent, x.both(person, x.some(0, person)));
        x.below(doctor, person);
        x.below(x.some(0, doctor), happy);
        int proud = x.both(person, x.some(0, doctor));
        due("10 itself", x.isBelow(proud, proud), true);
        due("10 by a filler that is below", x.isBelow(proud, parent), true);
        due("10 by a some on the left", x.isBelow(proud, happy), true);
        due("10 not back", x.isBelow(parent, proud), false);
        due("10 not all", x.isBelow(parent, happy), false);
        due("10 below ALL", x.isBelow(proud, ALL), true);
        refusedPairs(x, "10 isBelow", (d, e) -> x.isBelow(d, e) ? 1 : 0);
        TermServer y = names(3);
        y.below(2, y.some(0, 2));
        y.below(y.some(0, 3), 3);
        y.below(2, 4);
        due("10 a ring has an end", y.isBelow(2, 3), false);
        y.below(y.some(0, 4), 3);
        due("10 by the ring", y.isBelow(2, 3), true);
    }

    private static void isBelowOfNothing() {
        TermServer x = names(4);
        x.below(x.both(2, 3), NOTHING);
        due("10 each by itself is something", x.isBelow(2, NOTHING), false);
        x.below(4, 2);
        x.below(4, 3);
        due("10 below two that share nothing", x.isBelow(4, NOTHING), true);
        due("10 so below all", x.isBelow(4, 5), true);
        int lead = x.some(3, 4);
        due("10 what leads to nothing", x.isBelow(lead, NOTHING), true);
        x.below(5, lead);
        due("10 and what is below that", x.isBelow(5, 2), true);
        due("10 ALL is something", x.isBelow(ALL, NOTHING), false);
        due("10 made later", x.isBelow(4, x.name()), true);
    }

    private static void isBelowInNoWorld() {
        TermServer x = names(2);
        x.below(ALL, x.some(2, 2));
        due("10 a world with such pairs", x.isBelow(ALL, NOTHING), false);
        x.below(2, NOTHING);
        due("10 no world fits", x.isBelow(ALL, NOTHING), true);
        due("10 so all is below all", x.isBelow(3, 2), true);
        due("10 also has", x.has(3, 5, NOTHING), true);
        due("10 one class", x.count(6), 1);
        due("10 new names too", x.isBelow(x.name(), NOTHING), true);
        x.retract(2);
        due("10 worlds fit again", x.isBelow(3, 2), false);
    }

    private static void isBelowOfLaterDescriptions() {
        TermServer x = names(4);
        x.below(2, 3);
        x.below(2, 4);
        x.below(5, x.some(1, 2));
        due("10 asked before", x.isBelow(2, 3), true);
        due("10 asked before", x.has(5, 1, 3), true);
        int both = x.both(3, 4);
        due("10 a both made later", x.isBelow(2, both), true);
        int some = x.some(1, both);
        due("10 a some made later", x.isBelow(5, some), true);
        due("10 not of others", x.isBelow(3, some), false);
        x.below(some, 4);
        due("10 told later", x.isBelow(5, 4), true);
        x.roleBelow(1, 0);
        due("10 a role told later", x.has(5, 0, both), true);
        x.below(both, x.some(2, 3));
        x.chain(0, 2, 3);
        due("10 a chain told later", x.has(5, 3, 3), true);
    }

    private static void supers() {
        TermServer x = names(4);
        int both = x.both(2, 4);
        int some = x.some(0, 2);
        due("11 a name is above itself", x.supers(2), 1);
        due("11 of both", x.supers(both), 2);
        due("11 of some", x.supers(some), 0);
        due("11 of ALL", x.supers(ALL), 0);
        due("11 of NOTHING all names", x.supers(NOTHING), 4);
        x.below(2, 3);
        x.below(some, 5);
        due("11 of both", x.supers(both), 3);
        due("11 of some", x.supers(some), 1);
        x.below(ALL, 4);
        due("11 of ALL", x.supers(ALL), 1);
        for (int d : outside(x)) {
            refused("11 supers " + d, () -> x.supers(d));
        }
    }

    private static void sup() {
        TermServer x = names(5);
        x.below(4, 6);
        x.below(4, 2);
        due("12 the first by number", x.sup(4, 0), 2);
        due("12 itself", x.sup(4, 1), 4);
        due("12 the last", x.sup(4, 2), 6);
        due("12 behind the last", x.sup(4, 3), NONE);
        due("12 before the first", x.sup(4, -1), NONE);
        due("12 far off", x.sup(4, Integer.MAX_VALUE), NONE);
        due("12 far off", x.sup(4, Integer.MIN_VALUE), NONE);
        due("12 of ALL", x.sup(ALL, 0), NONE);
        due("12 of NOTHING", x.sup(NOTHING, 4), 6);
        due("12 of NOTHING no more", x.sup(NOTHING, 5), NONE);
        for (int d : outside(x)) {
            refused("12 sup " + d, () -> x.sup(d, 0));
            refused("12 sup " + d + " before the first", () -> x.sup(d, -1));
        }
    }

    private static void direct() {
        TermServer x = names(3);
        x.below(2, 3);
        x.below(3, 4);
        due("13 next", x.direct(2, 3), true);
        due("13 next but one", x.direct(2, 4), false);
        due("13 itself", x.direct(2, 2), false);
        due("13 not back", x.direct(3, 2), false);
        due("13 the top", x.direct(4, ALL), true);
        due("13 not from below", x.direct(3, ALL), false);
        due("13 the bottom", x.direct(NOTHING, 2), true);
        due("13 one is between", x.direct(NOTHING, 3), false);
        int both = x.both(2, 4);
        due("13 an equal one is not between", x.direct(2, 3), true);
        due("13 from the equal one", x.direct(both, 3), true);
        due("13 equal ones", x.direct(2, both), false);
        x.below(3, x.some(0, 3));
        int other = x.both(3, x.some(1, ALL));
        x.below(2, other);
        due("13 any description between counts", x.direct(2, 3), false);
        due("13 and is direct", x.direct(2, other), true);
        x.below(3, 2);
        due("13 equal now", x.direct(2, 3), false);
        refusedPairs(x, "13 direct", (d, e) -> x.direct(d, e) ? 1 : 0);
    }

    private static void twin() {
        TermServer x = names(4);
        due("14 of ALL", x.twin(ALL), ALL);
        due("14 of NOTHING", x.twin(NOTHING), NOTHING);
        due("14 itself", x.twin(5), 5);
        x.below(3, 4);
        x.below(4, 5);
        due("14 below is not equal", x.twin(5), 5);
        x.below(5, 3);
        due("14 a ring", x.twin(5), 3);
        due("14 a ring", x.twin(4), 3);
        due("14 the least itself", x.twin(3), 3);
        due("14 somes of equal ones", x.twin(x.some(1, 5)), 6);
        due("14 somes of equal ones", x.twin(x.some(1, 4)), 6);
        x.below(4, NOTHING);
        due("14 empty", x.twin(6), NOTHING);
        x.below(ALL, 2);
        due("14 all", x.twin(2), ALL);
        for (int d : outside(x)) {
            refused("14 twin " + d, () -> x.twin(d));
        }
    }

    private static void common() {
        TermServer x = names(8);
        x.below(2, 4);
        x.below(3, 4);
        x.below(2, 7);
        x.below(3, 7);
        x.below(4, 5);
        due("15 first", x.common(2, 3, 0), 4);
        due("15 second", x.common(2, 3, 1), 7);
        due("15 not the higher one", x.common(2, 3, 2), NONE);
        due("15 before the first", x.common(2, 3, -1), NONE);
        due("15 far off", x.common(2, 3, Integer.MIN_VALUE), NONE);
        due("15 far off", x.common(2, 3, Integer.MAX_VALUE), NONE);
        due("15 other order", x.common(3, 2, 1), 7);
        due("15 one below the other", x.common(2, 4, 0), 4);
        due("15 and no more", x.common(2, 4, 1), NONE);
        due("15 of itself", x.common(2, 2, 0), 2);
        due("15 nothing shared", x.common(8, 9, 0), NONE);
        due("15 with ALL", x.common(2, ALL, 0), NONE);
        due("15 with NOTHING", x.common(NOTHING, 5, 0), 5);
        x.equal(6, 7);
        due("15 the least of equal ones", x.common(2, 3, 0), 4);
        due("15 the least of equal ones", x.common(2, 3, 1), 6);
        due("15 only the least of equal ones", x.common(2, 3, 2), NONE);
        int both = x.both(4, 6);
        due("15 only names are given", x.common(2, 3, 0), 4);
        due("15 of a both", x.common(both, 2, 1), 6);
        due("15 of NOTHING twice", x.common(NOTHING, NOTHING, 0), 2);
        due("15 of NOTHING twice", x.common(NOTHING, NOTHING, 1), 3);
        due("15 of NOTHING twice", x.common(NOTHING, NOTHING, 2), 8);
        x.below(2, 9);
        x.below(3, 9);
        x.below(9, 4);
        due("15 a lower one of a higher number", x.common(2, 3, 0), 6);
        due("15 a lower one of a higher number", x.common(2, 3, 1), 9);
        due("15 a lower one of a higher number", x.common(2, 3, 2), NONE);
        refusedPairs(x, "15 common", (d, e) -> x.common(d, e, 0));
    }

    private static void why() {
        TermServer x = names(4);
        x.below(2, 3);
        x.below(5, 3);
        x.below(3, 4);
        due("16 two reasons", x.why(2, 4), 2);
        due("17 the first", x.reason(0), 1);
        due("17 the second", x.reason(1), 3);
        due("17 no more", x.reason(2), NONE);
        due("16 without reasons", x.why(2, 2), 0);
        due("17 none", x.reason(0), NONE);
        due("16 below ALL", x.why(2, ALL), 0);
        due("16 NOTHING below", x.why(NOTHING, 4), 0);
        due("16 not below", x.why(4, 2), NONE);
        due("17 none", x.reason(0), NONE);
        x.below(2, NOTHING);
        due("16 the earlier reasons are kept", x.why(2, 3), 1);
        due("17 the earlier one", x.reason(0), 1);
        due("16 only the new one", x.why(2, 5), 1);
        due("17 the new one", x.reason(0), 4);
        due("16 asking tells nothing", x.isBelow(3, 2), false);
        due("16 asking forgets nothing", x.isBelow(5, 4), true);
        due("16 in force", x.count(3), 4);
        refusedPairs(x, "16 why", x::why);
    }

    private static void whyLeavesOutFromTheLast() {
        TermServer x = names(4);
        x.below(2, 4);
        x.below(4, 3);
        x.below(2, 5);
        x.below(5, 3);
        x.below(2, 3);
        due("16 the last one is left out first", x.why(2, 3), 2);
        due("17 though one alone would do", x.reason(0), 1);
        due("17 though one alone would do", x.reason(1), 2);
        x.retract(1);
        due("16 only those in force", x.why(2, 3), 2);
        due("17 the next way", x.reason(0), 3);
        due("17 the next way", x.reason(1), 4);
        x.retract(4);
        due("16 the last way", x.why(2, 3), 1);
        due("17 the last way", x.reason(0), 5);
        x.retract(5);
        due("16 no way", x.why(2, 3), NONE);
        TermServer y = names(2);
        y.equal(2, 3);
        y.below(2, 3);
        y.below(3, 2);
        due("16 of an equal", y.why(3, 2), 1);
        due("17 of an equal", y.reason(0), 1);
    }

    private static void whyOfManyReasons() {
        TermServer x = names(101);
        for (int d = 101; d >= 2; d--) {
            x.below(d, d + 1);
        }
        due("16 all hundred", x.why(2, 102), 100);
        for (int i = 0; i < 100; i++) {
            due("17 reason " + i, x.reason(i), i + 1);
        }
        due("17 no more", x.reason(100), NONE);
        due("16 half", x.why(52, 102), 50);
        due("17 half", x.reason(49), 50);
        due("17 half", x.reason(50), NONE);
    }

    private static void reason() {
        TermServer x = names(3);
        due("17 before any why", x.reason(0), NONE);
        x.below(2, 3);
        x.below(3, 4);
        x.why(2, 4);
        due("17 before the first", x.reason(-1), NONE);
        due("17 far off", x.reason(Integer.MIN_VALUE), NONE);
        due("17 far off", x.reason(Integer.MAX_VALUE), NONE);
        x.retract(1);
        x.isBelow(2, 4);
        due("17 those found latest stay", x.reason(0), 1);
        due("17 those found latest stay", x.reason(1), 2);
        refused("16 not there", () -> x.why(2, 5));
        due("17 a refused why finds none", x.reason(1), 2);
        x.why(3, 4);
        due("17 found anew", x.reason(0), 2);
        due("17 found anew", x.reason(1), NONE);
        x.why(4, 3);
        due("17 no reasons when not below", x.reason(0), NONE);
    }

    private static void has() {
        TermServer x = names(4);
        x.below(2, x.some(1, 3));
        x.below(3, 4);
        int made = x.count(0);
        due("18 told", x.has(2, 1, 3), true);
        due("18 not made", x.has(2, 1, 4), true);
        due("18 ALL", x.has(2, 1, ALL), true);
        due("18 NOTHING", x.has(2, 1, NOTHING), false);
        due("18 other filler", x.has(2, 1, 5), false);
        due("18 other role", x.has(2, 2, 3), false);
        due("18 other one", x.has(3, 1, 3), false);
        due("18 NOTHING has all", x.has(NOTHING, 5, 5), true);
        x.roleBelow(1, 2);
        due("18 role above", x.has(2, 2, 4), true);
        due("18 none is made", x.count(0), made);
        x.below(4, NOTHING);
        due("18 an empty one has all", x.has(2, 0, NOTHING), true);
        for (int r : NO_ROLES) {
            refused("18 has 2 " + r + " 3", () -> x.has(2, r, 3));
        }
        for (int d : outside(x)) {
            refused("18 has " + d + " 1 3", () -> x.has(d, 1, 3));
            refused("18 has 2 1 " + d, () -> x.has(2, 1, d));
        }
    }

    private static void count() {
        TermServer x = names(3);
        x.both(2, 3);
        x.some(0, 5);
        x.below(2, 3);
        x.equal(3, 4);
        x.below(3, 4);
        x.retract(3);
        due("19 descriptions", x.count(0), 7);
        due("19 names", x.count(1), 3);
        due("19 told", x.count(2), 3);
        due("19 in force", x.count(3), 2);
        // 6 below ALL, 5 above NOTHING beside ALL, 2 and the equal 5 below 3 and 4, 2 5, 5 2, 3 4, 4 3
        due("19 pairs", x.count(4), 6 + 5 + 4 + 4);
        due("19 empty", x.count(5), 1);
        due("19 classes", x.count(6), 5);
        due("19 others", x.count(7), NONE);
        due("19 others", x.count(-1), NONE);
        due("19 others", x.count(Integer.MAX_VALUE), NONE);
        due("19 others", x.count(Integer.MIN_VALUE), NONE);
    }

    private static void countOfEmptyOnes() {
        TermServer x = names(3);
        x.some(0, 2);
        x.below(2, NOTHING);
        due("19 empty", x.count(5), 3);
        due("19 classes", x.count(6), 4);
        // each of 1, 2, 5 is below all other 5; 3 and 4 are below ALL
        due("19 pairs", x.count(4), 17);
        x.below(ALL, 5);
        due("19 all empty", x.count(5), 6);
        due("19 one class", x.count(6), 1);
        due("19 all pairs", x.count(4), 30);
    }

    private interface Pairs {
        int of(int d, int e);
    }

    private static TermServer names(int many) {
        TermServer made = new TermServer();
        for (int i = 0; i < many; i++) {
            made.name();
        }
        return made;
    }

    private static int[] outside(TermServer x) {
        return new int[] {-1, x.count(0), 160, Integer.MIN_VALUE, Integer.MAX_VALUE};
    }

    private static void refusedPairs(TermServer x, String what, Pairs call) {
        for (int d : outside(x)) {
            refused(what + " " + d + " 0", () -> call.of(d, 0));
            refused(what + " 0 " + d, () -> call.of(0, d));
            refused(what + " " + d + " " + d, () -> call.of(d, d));
        }
    }

    private static void due(String what, long got, long want) {
        CHECKS.due(what, got, want);
    }

    private static void due(String what, boolean got, boolean want) {
        CHECKS.due(what, got, want);
    }

    private static void refused(String what, Runnable call) {
        CHECKS.refused(what, call);
    }
}
