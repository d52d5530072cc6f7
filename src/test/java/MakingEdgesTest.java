/** The boundaries that promises 1 to 4 name: a new object, name, both, some. */
public final class MakingEdgesTest extends Edges {
    private MakingEdgesTest() {
        super("MakingEdgesTest");
    }

    public static void main(String[] args) {
        MakingEdgesTest test = new MakingEdgesTest();
        test.newObject();
        test.name();
        test.both();
        test.some();
        test.end();
    }

    private void newObject() {
        sentence("1: ALL and NOTHING alone", this::allAndNothingAlone);
        sentence("1: no axioms", this::noAxioms);
    }

    private void name() {
        sentence("2: A new name: its number as a description", this::nameNumber);
        sentence("2: NONE when there are 160 of these", this::nameWhenFull);
    }

    private void both() {
        sentence("3: BOTH of two descriptions: its number", this::bothNumber);
        sentence("3: NONE when it would be new and there are 160", this::newBothWhenFull);
        sentence("3: when it would be new", this::oldBothWhenFull);
        sentence("3: IndexOutOfBoundsException when one of both is not there", this::bothNotThere);
        sentence("3: not there when there are 160", this::bothNotThereWhenFull);
    }

    private void some() {
        sentence("4: SOME r of a description: as both: its number", this::someNumber);
        sentence("4: as both: NONE when it would be new and there are 160", this::newSomeWhenFull);
        sentence("4: as both: when it would be new", this::oldSomeWhenFull);
        sentence("4: IndexOutOfBoundsException when d is not there", this::someNotThere);
        sentence("4: IndexOutOfBoundsException when r is not there", this::someOfNoRole);
        sentence("4: r or d is not there when there are 160", this::someNotThereWhenFull);
    }

    private void allAndNothingAlone() {
        TermServer x = new TermServer();
        due("descriptions", x.count(0), 2);
        due("names", x.count(1), 0);
        due("ALL is there", x.twin(ALL), ALL);
        due("NOTHING is there", x.twin(NOTHING), NOTHING);
        refused("2 is not", () -> x.twin(2));
        refused("-1 is not", () -> x.twin(-1));
        due("names above NOTHING", x.supers(NOTHING), 0);
        due("pairs", x.count(4), 1);
        due("empty ones", x.count(5), 1);
        due("classes", x.count(6), 2);
        TermServer other = names(3);
        due("another object's names are its own", new TermServer().count(0), 2);
        due("and stay with it", other.count(0), 5);
    }

    private void noAxioms() {
        TermServer x = new TermServer();
        due("told", x.count(2), 0);
        due("in force", x.count(3), 0);
        due("the first one is not there", x.retract(1), false);
        due("ALL is not below NOTHING", x.isBelow(ALL, NOTHING), false);
        due("no reasons", x.reason(0), NONE);
        due("NOTHING is below ALL without any", x.why(NOTHING, ALL), 0);
        due("no role below another one", x.has(x.some(0, ALL), 1, ALL), false);
        due("no chain", x.has(x.some(0, x.some(0, ALL)), 0, NOTHING), false);
        told(2, 50);
        due("another object's axioms are its own", x.count(2), 0);
    }

    private void nameNumber() {
        TermServer x = new TermServer();
        due("the first one", x.name(), 2);
        due("the second one", x.name(), 3);
        x.both(2, 3);
        x.some(0, 4);
        due("behind others", x.name(), 6);
        due("names", x.count(1), 3);
        due("it is there", x.supers(6), 1);
        x.below(ALL, NOTHING);
        due("when no world fits", x.name(), 7);
    }

    private void nameWhenFull() {
        TermServer x = names(157);
        due("descriptions", x.count(0), 159);
        due("the last one", x.name(), 159);
        due("full", x.name(), NONE);
        due("full once more", x.name(), NONE);
        due("descriptions", x.count(0), 160);
        due("names", x.count(1), 158);
        TermServer mixed = names(57);
        for (int d = 59; d < 159; d++) {
            mixed.both(2, d - 57);
        }
        due("the last one of many kinds", mixed.name(), 159);
        due("full of many kinds", mixed.name(), NONE);
        due("descriptions", mixed.count(0), 160);
        due("names", mixed.count(1), 58);
        x.below(2, 3);
        x.retract(1);
        due("taking back makes no room", x.name(), NONE);
    }

    private void bothNumber() {
        TermServer x = names(1);
        due("of a name and itself", x.both(2, 2), 3);
        due("of ALL and NOTHING", x.both(ALL, NOTHING), 4);
        due("of NOTHING and ALL", x.both(NOTHING, ALL), 5);
        due("of itself", x.both(5, 5), 6);
        due("of the last one and ALL", x.both(6, ALL), 7);
        due("made already", x.both(2, 2), 3);
        due("descriptions", x.count(0), 8);
        due("it is no name", x.count(1), 1);
    }

    private void newBothWhenFull() {
        TermServer x = names(157);
        due("the last one", x.both(158, 157), 159);
        due("full", x.both(157, 158), NONE);
        due("of the last one", x.both(159, 159), NONE);
        due("of ALL", x.both(ALL, ALL), NONE);
        due("descriptions", x.count(0), 160);
        due("it was not made by the way", x.both(157, 158), NONE);
        due("others are as they were", x.isBelow(159, 157), true);
    }

    private void oldBothWhenFull() {
        TermServer x = names(100);
        int first = x.both(2, 3);
        int same = x.both(ALL, ALL);
        for (int d = x.count(0); d < 159; d++) {
            x.name();
        }
        int last = x.both(158, 2);
        due("the last one", last, 159);
        due("full", x.name(), NONE);
        due("the first one", x.both(2, 3), first);
        due("that of ALL", x.both(ALL, ALL), same);
        due("the last one again", x.both(158, 2), last);
        due("turned it would be new", x.both(3, 2), NONE);
        due("descriptions", x.count(0), 160);
    }

    private void bothNotThere() {
        TermServer x = asked();
        refusesOthers(x, "both 0 -", d -> x.both(ALL, d));
        refusesOthers(x, "both - 0", d -> x.both(d, ALL));
        refusesOthers(x, "both - -", d -> x.both(d, d));
        due("the next one", x.both(2, 3), 4);
        due("is there now", x.both(4, 4), 5);
        TermServer y = new TermServer();
        refused("of a new object", () -> y.both(2, ALL));
        refused("of a new object", () -> y.both(NOTHING, 2));
    }

    /** Of what is not there no BOTH could be new: so it is refused, and not answered by NONE. */
    private void bothNotThereWhenFull() {
        TermServer x = fullOfNames();
        refusesOthers(x, "both 0 -", d -> x.both(ALL, d));
        refusesOthers(x, "both - 0", d -> x.both(d, ALL));
    }

    private void someNumber() {
        TermServer x = names(1);
        due("of a name", x.some(0, 2), 3);
        due("of another role", x.some(5, 2), 4);
        due("of ALL", x.some(5, ALL), 5);
        due("of NOTHING", x.some(0, NOTHING), 6);
        due("of a some", x.some(0, 6), 7);
        due("made already", x.some(5, 2), 4);
        due("made already", x.some(0, 2), 3);
        due("descriptions", x.count(0), 8);
        due("it is no name", x.count(1), 1);
    }

    private void newSomeWhenFull() {
        TermServer x = names(157);
        due("the last one", x.some(5, 158), 159);
        due("full", x.some(4, 158), NONE);
        due("of the last one", x.some(5, 159), NONE);
        due("of ALL", x.some(0, ALL), NONE);
        due("descriptions", x.count(0), 160);
        due("it was not made by the way", x.some(4, 158), NONE);
        due("others are as they were", x.has(159, 5, 158), true);
    }

    private void oldSomeWhenFull() {
        TermServer x = names(100);
        int first = x.some(0, 2);
        int high = x.some(5, ALL);
        for (int d = x.count(0); d < 159; d++) {
            x.name();
        }
        int last = x.some(3, 158);
        due("the last one", last, 159);
        due("full", x.name(), NONE);
        due("the first one", x.some(0, 2), first);
        due("that of ALL", x.some(5, ALL), high);
        due("the last one again", x.some(3, 158), last);
        due("of another role it would be new", x.some(1, 2), NONE);
        due("descriptions", x.count(0), 160);
    }

    private void someNotThere() {
        TermServer x = asked();
        refusesOthers(x, "some 0 -", d -> x.some(0, d));
        refusesOthers(x, "some 5 -", d -> x.some(5, d));
        due("the next one", x.some(0, 2), 4);
        due("is there now", x.some(0, 4), 5);
        TermServer y = new TermServer();
        refused("of a new object", () -> y.some(0, 2));
    }

    private void someOfNoRole() {
        TermServer x = asked();
        refusesOtherRoles(x, "some - 2", r -> x.some(r, 2));
        refusesOtherRoles(x, "some - 0", r -> x.some(r, ALL));
        due("the next one", x.some(0, 2), 4);
        refused("made for other roles", () -> x.some(6, 2));
    }

    private void someNotThereWhenFull() {
        TermServer x = fullOfNames();
        refusesOthers(x, "some 0 -", d -> x.some(0, d));
        refusesOtherRoles(x, "some - 2", r -> x.some(r, 2));
    }
}
