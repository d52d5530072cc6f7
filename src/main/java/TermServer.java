import java.util.Arrays;

/**
 * A server for terms: what is said to be below what, by descriptions of names, joins and relations,
 * is closed under all that follows; so each description has its place, each answer its least
 * reasons, and axioms may be taken back.
 */
public final class TermServer {
    public static final int NONE = -1;

    private static final int ALL = 0;
    private static final int NOTHING = 1;
    private static final int MOST_TERMS = 160;
    private static final int MOST_AXIOMS = 100;
    private static final int ROLES = 6;

    private final Terms terms;
    private final Axioms axioms;
    private final Closure closure;
    /** What why() found latest, from the last one to the first one. */
    private final int[] reasons;
    private int reasonCount;

    public TermServer() {
        terms = new Terms();
        axioms = new Axioms();
        closure = new Closure(terms, axioms);
        reasons = new int[MOST_AXIOMS];
        reasonCount = 0;
    }

    public int name() {
        return terms.make(Terms.NAME, NONE, NONE);
    }

    public int both(int d, int e) throws IndexOutOfBoundsException {
        checkTerm(d);
        checkTerm(e);
        int made = terms.findBoth(d, e);
        return made != NONE ? made : terms.make(Terms.BOTH, d, e);
    }

    public int some(int r, int d) throws IndexOutOfBoundsException {
        checkRole(r);
        checkTerm(d);
        int made = terms.findSome(r, d);
        return made != NONE ? made : terms.make(Terms.SOME, r, d);
    }

    public int below(int d, int e) throws IndexOutOfBoundsException {
        checkTerm(d);
        checkTerm(e);
        return axioms.tell(Axioms.BELOW, d, e, NONE);
    }

    public int equal(int d, int e) throws IndexOutOfBoundsException {
        checkTerm(d);
        checkTerm(e);
        return axioms.tell(Axioms.EQUAL, d, e, NONE);
    }

    public int roleBelow(int r, int s) throws IndexOutOfBoundsException {
        checkRole(r);
        checkRole(s);
        return axioms.tell(Axioms.ROLE_BELOW, r, s, NONE);
    }

    public int chain(int r, int s, int t) throws IndexOutOfBoundsException {
        checkRole(r);
        checkRole(s);
        checkRole(t);
        return axioms.tell(Axioms.CHAIN, r, s, t);
    }

    public boolean retract(int axiom) {
        if (!axioms.isInForce(axiom)) {
            return false;
        }
        axioms.takeBack(axiom);
        closure.spoil();
        return true;
    }

    public boolean isBelow(int d, int e) throws IndexOutOfBoundsException {
        checkTerm(d);
        checkTerm(e);
        closure.place(d);
        return closure.covers(d, e);
    }

    public int supers(int d) throws IndexOutOfBoundsException {
        checkTerm(d);
        closure.place(d);
        int found = 0;
        for (int n = 0; n < terms.size(); n++) {
            if (isNameAbove(d, n)) {
                found++;
            }
        }
        return found;
    }

    public int sup(int d, int i) throws IndexOutOfBoundsException {
        checkTerm(d);
        closure.place(d);
        int found = 0;
        for (int n = 0; n < terms.size(); n++) {
            if (isNameAbove(d, n)) {
                if (found == i) {
                    return n;
                }
                found++;
            }
        }
        return NONE;
    }

    public boolean direct(int d, int e) throws IndexOutOfBoundsException {
        checkTerm(d);
        checkTerm(e);
        closure.placeWithAbove(d);
        if (!isStrictlyBelow(d, e)) {
            return false;
        }
        for (int m = 0; m < terms.size(); m++) {
            if (isStrictlyBelow(d, m) && isStrictlyBelow(m, e)) {
                return false;
            }
        }
        return true;
    }

    public int twin(int d) throws IndexOutOfBoundsException {
        checkTerm(d);
        closure.placeWithAbove(d);
        return leastEqual(d);
    }

    public int common(int d, int e, int i) throws IndexOutOfBoundsException {
        checkTerm(d);
        checkTerm(e);
        closure.placeWithAbove(d);
        closure.place(e);
        int found = 0;
        for (int n = 0; n < terms.size(); n++) {
            if (isNameAboveBoth(d, e, n) && isLowestAboveBoth(d, e, n)) {
                if (found == i) {
                    return n;
                }
                found++;
            }
        }
        return NONE;
    }

    public int why(int d, int e) throws IndexOutOfBoundsException {
        checkTerm(d);
        checkTerm(e);
        reasonCount = 0;
        closure.place(d);
        if (!closure.covers(d, e)) {
            return NONE;
        }
        int last = axioms.told() + 1;
        for (int round = 0; round < MOST_AXIOMS && last != NONE; round++) {
            last = reasonBefore(last, d, e);
            if (last != NONE) {
                reasons[reasonCount] = last;
                reasonCount++;
            }
        }
        return reasonCount;
    }

    public int reason(int i) {
        return i >= 0 && i < reasonCount ? reasons[reasonCount - 1 - i] : NONE;
    }

    public boolean has(int x, int r, int y) throws IndexOutOfBoundsException {
        checkTerm(x);
        checkRole(r);
        checkTerm(y);
        closure.place(x);
        return closure.reaches(x, r, y);
    }

    public int count(int what) {
        if (what >= 4 && what <= 6) {
            closure.placeAll();
        }
        switch (what) {
            case 0:
                return terms.size();
            case 1:
                return terms.names();
            case 2:
                return axioms.told();
            case 3:
                return axioms.inForce();
            case 4:
                return countPairs();
            case 5:
                return countEmpty();
            case 6:
                return countClasses();
            default:
                return NONE;
        }
    }

    private void checkTerm(int d) {
        if (d < 0 || d >= terms.size()) {
            throw new IndexOutOfBoundsException("no such description");
        }
    }

    private static void checkRole(int r) {
        if (r < 0 || r >= ROLES) {
            throw new IndexOutOfBoundsException("no such role");
        }
    }

    private boolean isNameAbove(int d, int n) {
        return terms.isName(n) && closure.covers(d, n);
    }

    private boolean isNameAboveBoth(int d, int e, int n) {
        return isNameAbove(d, n) && closure.covers(e, n);
    }

    private boolean isStrictlyBelow(int d, int e) {
        return closure.covers(d, e) && !closure.covers(e, d);
    }

    /** Of equal names only the least one passes. */
    private boolean isLowestAboveBoth(int d, int e, int n) {
        for (int m = 0; m < terms.size(); m++) {
            if (isNameAboveBoth(d, e, m) && closure.covers(m, n)) {
                if (m < n || !closure.covers(n, m)) {
                    return false;
                }
            }
        }
        return true;
    }

    private int leastEqual(int d) {
        for (int e = 0; e < d; e++) {
            if (closure.covers(d, e) && closure.covers(e, d)) {
                return e;
            }
        }
        return d;
    }

    /**
     * The next reason in front of the one found last; NONE when those found are enough. Leaving out
     * from the last axiom to the first one keeps just that axiom which, heard from the first one on
     * beside the reasons found, is the one that makes d below e: so one closure finds it.
     */
    private int reasonBefore(int last, int d, int e) {
        closure.forget();
        closure.begin(d);
        for (int i = 0; i < reasonCount; i++) {
            closure.hear(reasons[i]);
        }
        closure.saturate();
        if (closure.covers(d, e)) {
            return NONE;
        }
        for (int axiom = 1; axiom < last; axiom++) {
            if (axioms.isInForce(axiom)) {
                closure.hear(axiom);
                closure.saturate();
                if (closure.covers(d, e)) {
                    return axiom;
                }
            }
        }
        return NONE;
    }

    private int countPairs() {
        int found = 0;
        for (int d = 0; d < terms.size(); d++) {
            for (int e = 0; e < terms.size(); e++) {
                if (d != e && closure.covers(d, e)) {
                    found++;
                }
            }
        }
        return found;
    }

    private int countEmpty() {
        int found = 0;
        for (int d = 0; d < terms.size(); d++) {
            if (closure.isEmpty(d)) {
                found++;
            }
        }
        return found;
    }

    private int countClasses() {
        int found = 0;
        for (int d = 0; d < terms.size(); d++) {
            if (leastEqual(d) == d) {
                found++;
            }
        }
        return found;
    }

    /** Rows of bits, each row a set of numbers from 0 up to its width. */
    private static final class Bits {
        private final int width;
        private final int wordsARow;
        private final long[] words;

        Bits(int rows, int width) {
            this.width = width;
            this.wordsARow = (width + 63) / 64;
            this.words = new long[rows * wordsARow];
        }

        boolean holds(int row, int bit) {
            return (words[row * wordsARow + (bit >> 6)] >>> (bit & 63) & 1L) != 0L;
        }

        /** Whether the bit was not there before. */
        boolean put(int row, int bit) {
            int at = row * wordsARow + (bit >> 6);
            long before = words[at];
            words[at] = before | 1L << (bit & 63);
            return words[at] != before;
        }

        void drop(int row, int bit) {
            words[row * wordsARow + (bit >> 6)] &= ~(1L << (bit & 63));
        }

        /** The first bit of the row that is not below from; the width when there is none. */
        int next(int row, int from) {
            for (int at = from; at < width; at = (at | 63) + 1) {
                long rest = words[row * wordsARow + (at >> 6)] >>> (at & 63);
                if (rest != 0L) {
                    return at + Long.bitCount((rest & -rest) - 1L);
                }
            }
            return width;
        }

        /** As next, but without the bits that a row of others, of the same width, has too. */
        int nextBeyond(int row, int from, Bits others, int otherRow) {
            for (int at = from; at < width; at = (at | 63) + 1) {
                int word = at >> 6;
                long rest = words[row * wordsARow + word] & ~others.words[otherRow * wordsARow + word];
                rest = rest >>> (at & 63);
                if (rest != 0L) {
                    return at + Long.bitCount((rest & -rest) - 1L);
                }
            }
            return width;
        }

        /** Clears the first rows alone, since most objects use few of them. */
        void clear(int rows) {
            int end = Math.min(rows * wordsARow, words.length);
            for (int at = 0; at < end; at++) {
                words[at] = 0L;
            }
        }
    }

    /** The descriptions that were made. */
    private static final class Terms {
        static final int FIXED = 0;
        static final int NAME = 1;
        static final int BOTH = 2;
        static final int SOME = 3;

        private final int[] kinds;
        private final int[] lefts;
        private final int[] rights;
        /** By role and description: SOME of it, or NONE. */
        private final int[] somes;
        /** By description: all BOTH that it is a part of. */
        final Bits boths;
        /** By role: all that it was made a SOME of. */
        final Bits fillers;
        private int size;
        private int names;

        Terms() {
            kinds = new int[MOST_TERMS];
            lefts = new int[MOST_TERMS];
            rights = new int[MOST_TERMS];
            somes = new int[ROLES * MOST_TERMS];
            boths = new Bits(MOST_TERMS, MOST_TERMS);
            fillers = new Bits(ROLES, MOST_TERMS);
            Arrays.fill(somes, NONE);
            kinds[ALL] = FIXED;
            kinds[NOTHING] = FIXED;
            size = 2;
            names = 0;
        }

        int size() {
            return size;
        }

        int names() {
            return names;
        }

        int kind(int d) {
            return kinds[d];
        }

        boolean isName(int d) {
            return kinds[d] == NAME;
        }

        /** The first part of a BOTH, the role of a SOME. */
        int left(int d) {
            return lefts[d];
        }

        int right(int d) {
            return rights[d];
        }

        int findSome(int r, int d) {
            return somes[r * MOST_TERMS + d];
        }

        int findBoth(int d, int e) {
            for (int b = boths.next(d, 0); b < MOST_TERMS; b = boths.next(d, b + 1)) {
                if (lefts[b] == d && rights[b] == e) {
                    return b;
                }
            }
            return NONE;
        }

        int otherPart(int both, int part) {
            return lefts[both] == part ? rights[both] : lefts[both];
        }

        int make(int kind, int left, int right) {
            if (size >= MOST_TERMS) {
                return NONE;
            }
            int made = size;
            size++;
            kinds[made] = kind;
            lefts[made] = left;
            rights[made] = right;
            if (kind == NAME) {
                names++;
            } else if (kind == BOTH) {
                boths.put(left, made);
                boths.put(right, made);
            } else if (kind == SOME) {
                somes[left * MOST_TERMS + right] = made;
                fillers.put(left, right);
            }
            return made;
        }
    }

    /** The axioms that were told, from 1 on. */
    private static final class Axioms {
        static final int BELOW = 0;
        static final int EQUAL = 1;
        static final int ROLE_BELOW = 2;
        static final int CHAIN = 3;

        private final int[] kinds;
        private final int[] firsts;
        private final int[] seconds;
        private final int[] thirds;
        private final boolean[] takenBack;
        private int told;
        private int inForce;

        Axioms() {
            kinds = new int[MOST_AXIOMS];
            firsts = new int[MOST_AXIOMS];
            seconds = new int[MOST_AXIOMS];
            thirds = new int[MOST_AXIOMS];
            takenBack = new boolean[MOST_AXIOMS];
            told = 0;
            inForce = 0;
        }

        int told() {
            return told;
        }

        int inForce() {
            return inForce;
        }

        int kind(int axiom) {
            return kinds[axiom - 1];
        }

        int first(int axiom) {
            return firsts[axiom - 1];
        }

        int second(int axiom) {
            return seconds[axiom - 1];
        }

        int third(int axiom) {
            return thirds[axiom - 1];
        }

        boolean isInForce(int axiom) {
            return axiom >= 1 && axiom <= told && !takenBack[axiom - 1];
        }

        int tell(int kind, int first, int second, int third) {
            if (told >= MOST_AXIOMS) {
                return NONE;
            }
            kinds[told] = kind;
            firsts[told] = first;
            seconds[told] = second;
            thirds[told] = third;
            told++;
            inForce++;
            return told;
        }

        void takeBack(int axiom) {
            takenBack[axiom - 1] = true;
            inForce--;
        }
    }

    /**
     * All that follows, as facts of two forms: d above c, and a link of a role from c to d, which
     * says that each thing of c has a pair of that role with a thing of d. Facts are drawn only for
     * descriptions that were begun: those asked for and those that links lead to. Nothing more is
     * drawn for one that is below NOTHING, since it is below all.
     */
    private static final class Closure {
        /** A fact's relation is a role or this one. */
        private static final int ABOVE = ROLES;
        private static final int RELATIONS = ROLES + 1;
        private static final int ROWS = MOST_TERMS * RELATIONS;
        private static final int MOST_FACTS = ROWS * MOST_TERMS;

        private final Terms terms;
        private final Axioms axioms;
        /** By row(c, relation): each d of the facts from c to d. */
        private final Bits facts;
        /** By row(d, relation): each c of the facts from c to d. */
        private final Bits sources;
        /** Those of the facts from which nothing has been drawn yet, and the rows that have some. */
        private final Bits fresh;
        private final Bits freshRows;
        /** What the axioms that were heard say, by their left sides. */
        private final Bits toldAbove;
        private final Bits toldRoles;
        private final Bits toldChains;
        private int admitted;
        private int heard;
        private boolean spoiled;

        Closure(Terms terms, Axioms axioms) {
            this.terms = terms;
            this.axioms = axioms;
            facts = new Bits(ROWS, MOST_TERMS);
            sources = new Bits(ROWS, MOST_TERMS);
            fresh = new Bits(ROWS, MOST_TERMS);
            freshRows = new Bits(1, ROWS);
            toldAbove = new Bits(MOST_TERMS, MOST_TERMS);
            toldRoles = new Bits(ROLES, ROLES);
            toldChains = new Bits(ROLES * ROLES, ROLES);
            admitted = 0;
            heard = 0;
            spoiled = false;
        }

        /** What is held here no longer follows from the axioms in force. */
        void spoil() {
            spoiled = true;
        }

        boolean isEmpty(int d) {
            return facts.holds(row(d, ABOVE), NOTHING);
        }

        /** Whether e is above d, which must have been placed. */
        boolean covers(int d, int e) {
            return isEmpty(d) || facts.holds(row(d, ABOVE), e);
        }

        /** Whether SOME r of y is above x, which must have been placed. */
        boolean reaches(int x, int r, int y) {
            if (isEmpty(x)) {
                return true;
            }
            int links = row(x, r);
            for (int d = facts.next(links, 0); d < MOST_TERMS; d = facts.next(links, d + 1)) {
                if (facts.holds(row(d, ABOVE), y)) {
                    return true;
                }
            }
            return false;
        }

        void place(int d) {
            catchUp();
            begin(d);
            saturate();
        }

        void placeWithAbove(int d) {
            catchUp();
            begin(d);
            saturate();
            for (int e = 0; e < terms.size(); e++) {
                if (covers(d, e)) {
                    begin(e);
                }
            }
            saturate();
        }

        void placeAll() {
            catchUp();
            for (int d = 0; d < terms.size(); d++) {
                begin(d);
            }
            saturate();
        }

        /**
         * Empties all; no description that is there needs to be admitted while none was begun. What is
         * heard of axioms in force after this may stay: the others join it at the next catching up.
         */
        void forget() {
            int rows = terms.size() * RELATIONS;
            facts.clear(rows);
            sources.clear(rows);
            fresh.clear(rows);
            freshRows.clear(1);
            toldAbove.clear(terms.size());
            toldRoles.clear(ROLES);
            toldChains.clear(ROLES * ROLES);
            admitted = terms.size();
            heard = 0;
            spoiled = false;
        }

        void begin(int d) {
            if (!facts.holds(row(d, ABOVE), d)) {
                add(d, ABOVE, d);
                add(d, ABOVE, ALL);
            }
        }

        void hear(int axiom) {
            int first = axioms.first(axiom);
            int second = axioms.second(axiom);
            switch (axioms.kind(axiom)) {
                case Axioms.BELOW:
                    toldAbove.put(first, second);
                    addFromAll(row(first, ABOVE), ABOVE, second);
                    break;
                case Axioms.EQUAL:
                    toldAbove.put(first, second);
                    toldAbove.put(second, first);
                    addFromAll(row(first, ABOVE), ABOVE, second);
                    addFromAll(row(second, ABOVE), ABOVE, first);
                    break;
                case Axioms.ROLE_BELOW:
                    toldRoles.put(first, second);
                    for (int d = 0; d < terms.size(); d++) {
                        addFromAll(row(d, first), second, d);
                    }
                    break;
                default:
                    toldChains.put(first * ROLES + second, axioms.third(axiom));
                    for (int d = 0; d < terms.size(); d++) {
                        int links = row(d, second);
                        for (int e = facts.next(links, 0); e < MOST_TERMS; e = facts.next(links, e + 1)) {
                            addFromAll(row(d, first), axioms.third(axiom), e);
                        }
                    }
                    break;
            }
        }

        /** Draws all that follows from what is fresh; a row is taken up again only for a new fact. */
        void saturate() {
            for (int step = 0; step < MOST_FACTS; step++) {
                int taken = freshRows.next(0, 0);
                if (taken >= ROWS) {
                    return;
                }
                freshRows.drop(0, taken);
                int c = taken / RELATIONS;
                int relation = taken % RELATIONS;
                for (int d = fresh.next(taken, 0); d < MOST_TERMS; d = fresh.next(taken, d + 1)) {
                    fresh.drop(taken, d);
                    if (relation == ABOVE && d == NOTHING) {
                        emptySources(c);
                    } else if (relation == ABOVE && !isEmpty(c)) {
                        addAll(c, ABOVE, toldAbove, d);
                        drawParts(c, d);
                        drawBoths(c, d);
                        drawSomes(c, d);
                    } else if (!isEmpty(c)) {
                        drawFromLink(c, relation, d);
                        drawFromChains(c, relation, d);
                    }
                }
            }
        }

        private static int row(int c, int relation) {
            return c * RELATIONS + relation;
        }

        /** Takes in what was made and told since the last time. */
        private void catchUp() {
            if (spoiled) {
                forget();
            }
            for (int d = admitted; d < terms.size(); d++) {
                if (terms.kind(d) == Terms.BOTH) {
                    admitBoth(d);
                } else if (terms.kind(d) == Terms.SOME) {
                    admitSome(d);
                }
            }
            admitted = terms.size();
            for (int axiom = heard + 1; axiom <= axioms.told(); axiom++) {
                if (axioms.isInForce(axiom)) {
                    hear(axiom);
                }
            }
            heard = axioms.told();
        }

        /** A description that was made later comes above those that were begun before. */
        private void admitBoth(int both) {
            int lower = row(terms.left(both), ABOVE);
            for (int c = sources.next(lower, 0); c < MOST_TERMS; c = sources.next(lower, c + 1)) {
                if (facts.holds(row(c, ABOVE), terms.right(both))) {
                    add(c, ABOVE, both);
                }
            }
        }

        private void admitSome(int some) {
            int lower = row(terms.right(some), ABOVE);
            for (int d = sources.next(lower, 0); d < MOST_TERMS; d = sources.next(lower, d + 1)) {
                addFromAll(row(d, terms.left(some)), ABOVE, some);
            }
        }

        private void emptySources(int d) {
            for (int r = 0; r < ROLES; r++) {
                addFromAll(row(d, r), ABOVE, NOTHING);
            }
        }

        private void drawParts(int c, int d) {
            if (terms.kind(d) == Terms.BOTH) {
                add(c, ABOVE, terms.left(d));
                add(c, ABOVE, terms.right(d));
            } else if (terms.kind(d) == Terms.SOME) {
                add(c, terms.left(d), terms.right(d));
            }
        }

        private void drawBoths(int c, int part) {
            Bits boths = terms.boths;
            for (int b = boths.next(part, 0); b < MOST_TERMS; b = boths.next(part, b + 1)) {
                if (facts.holds(row(c, ABOVE), terms.otherPart(b, part))) {
                    add(c, ABOVE, b);
                }
            }
        }

        private void drawSomes(int c, int filler) {
            for (int r = 0; r < ROLES; r++) {
                int some = terms.findSome(r, filler);
                if (some != NONE) {
                    addFromAll(row(c, r), ABOVE, some);
                }
            }
        }

        private void drawFromLink(int c, int r, int d) {
            begin(d);
            if (isEmpty(d)) {
                add(c, ABOVE, NOTHING);
                return;
            }
            for (int s = toldRoles.next(r, 0); s < ROLES; s = toldRoles.next(r, s + 1)) {
                add(c, s, d);
            }
            int upper = row(d, ABOVE);
            Bits fillers = terms.fillers;
            for (int e = fillers.next(r, 0); e < MOST_TERMS; e = fillers.next(r, e + 1)) {
                if (facts.holds(upper, e)) {
                    add(c, ABOVE, terms.findSome(r, e));
                }
            }
        }

        private void drawFromChains(int c, int r, int d) {
            for (int s = 0; s < ROLES; s++) {
                int asFirst = r * ROLES + s;
                for (int t = toldChains.next(asFirst, 0); t < ROLES; t = toldChains.next(asFirst, t + 1)) {
                    addAll(c, t, facts, row(d, s));
                }
                int asSecond = s * ROLES + r;
                for (int t = toldChains.next(asSecond, 0); t < ROLES; t = toldChains.next(asSecond, t + 1)) {
                    addFromAll(row(c, s), t, d);
                }
            }
        }

        private void add(int c, int relation, int d) {
            int from = row(c, relation);
            if (facts.put(from, d)) {
                sources.put(row(d, relation), c);
                fresh.put(from, d);
                freshRows.put(0, from);
            }
        }

        /** Facts from c to each one of a row. */
        private void addAll(int c, int relation, Bits targets, int targetRow) {
            int known = row(c, relation);
            for (int d = targets.nextBeyond(targetRow, 0, facts, known); d < MOST_TERMS;
                    d = targets.nextBeyond(targetRow, d + 1, facts, known)) {
                add(c, relation, d);
            }
        }

        /** Facts to d from each one of a row of the sources. */
        private void addFromAll(int sourceRow, int relation, int d) {
            int known = row(d, relation);
            for (int c = sources.nextBeyond(sourceRow, 0, sources, known); c < MOST_TERMS;
                    c = sources.nextBeyond(sourceRow, c + 1, sources, known)) {
                add(c, relation, d);
            }
        }
    }
}
