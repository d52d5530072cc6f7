import java.util.ArrayList;
import java.util.List;

/**
 * The document once more, as plainly as can be: every answer is drawn anew from all rules over whole
 * tables, with nothing kept between calls. Slow, and written without a look at how TermServer does it.
 */
final class Reference {
    static final int REFUSED = -2;

    private static final int NONE = -1;
    private static final int ROLES = 6;

    /** kind (' ' fixed, 'n' name, 'b' both, 's' some), and the two parts. */
    private final List<int[]> terms = new ArrayList<>();
    /** kind ('b' below, 'e' equal, 'r' role, 'c' chain), and what it is about. */
    private final List<int[]> axioms = new ArrayList<>();
    private final List<Boolean> inForce = new ArrayList<>();
    private List<Integer> reasons = new ArrayList<>();
    private boolean[][] below = null;

    Reference() {
        terms.add(new int[] {' ', 0, 0});
        terms.add(new int[] {' ', 0, 0});
    }

    int size() {
        return terms.size();
    }

    int told() {
        return axioms.size();
    }

    int name() {
        return make(new int[] {'n', terms.size(), 0});
    }

    int both(int d, int e) {
        return isTerm(d) && isTerm(e) ? make(new int[] {'b', d, e}) : REFUSED;
    }

    int some(int r, int d) {
        return isRole(r) && isTerm(d) ? make(new int[] {'s', r, d}) : REFUSED;
    }

    int below(int d, int e) {
        return isTerm(d) && isTerm(e) ? tell('b', d, e, 0) : REFUSED;
    }

    int equal(int d, int e) {
        return isTerm(d) && isTerm(e) ? tell('e', d, e, 0) : REFUSED;
    }

    int roleBelow(int r, int s) {
        return isRole(r) && isRole(s) ? tell('r', r, s, 0) : REFUSED;
    }

    int chain(int r, int s, int t) {
        return isRole(r) && isRole(s) && isRole(t) ? tell('c', r, s, t) : REFUSED;
    }

    int retract(int axiom) {
        if (axiom < 1 || axiom > axioms.size() || !inForce.get(axiom - 1)) {
            return 0;
        }
        inForce.set(axiom - 1, false);
        below = null;
        return 1;
    }

    int isBelow(int d, int e) {
        return isTerm(d) && isTerm(e) ? one(table()[d][e]) : REFUSED;
    }

    int supers(int d) {
        return isTerm(d) ? namesAbove(d).size() : REFUSED;
    }

    int sup(int d, int i) {
        return isTerm(d) ? at(namesAbove(d), i) : REFUSED;
    }

    int direct(int d, int e) {
        if (!isTerm(d) || !isTerm(e)) {
            return REFUSED;
        }
        boolean between = false;
        for (int m = 0; m < terms.size(); m++) {
            between |= strictly(d, m) && strictly(m, e);
        }
        return one(strictly(d, e) && !between);
    }

    int twin(int d) {
        return isTerm(d) ? leastTwin(d) : REFUSED;
    }

    int common(int d, int e, int i) {
        if (!isTerm(d) || !isTerm(e)) {
            return REFUSED;
        }
        List<Integer> shared = namesAbove(d);
        shared.retainAll(namesAbove(e));
        List<Integer> found = new ArrayList<>();
        for (int n : shared) {
            boolean kept = true;
            for (int m : shared) {
                kept &= !strictly(m, n);
            }
            for (int m = 0; m < n; m++) {
                kept &= terms.get(m)[0] != 'n' || !equalTo(m, n);
            }
            if (kept) {
                found.add(n);
            }
        }
        return at(found, i);
    }

    int why(int d, int e) {
        if (!isTerm(d) || !isTerm(e)) {
            return REFUSED;
        }
        reasons = new ArrayList<>();
        if (!table()[d][e]) {
            return NONE;
        }
        boolean[] kept = new boolean[axioms.size()];
        for (int a = 0; a < kept.length; a++) {
            kept[a] = inForce.get(a);
        }
        for (int a = kept.length - 1; a >= 0; a--) {
            if (kept[a]) {
                kept[a] = false;
                kept[a] = !close(terms, kept)[d][e];
            }
        }
        for (int a = 0; a < kept.length; a++) {
            if (kept[a]) {
                reasons.add(a + 1);
            }
        }
        return reasons.size();
    }

    int reason(int i) {
        return at(reasons, i);
    }

    int has(int x, int r, int y) {
        if (!isTerm(x) || !isRole(r) || !isTerm(y)) {
            return REFUSED;
        }
        List<int[]> more = new ArrayList<>(terms);
        more.add(new int[] {'s', r, y});
        return one(close(more, forces())[x][more.size() - 1]);
    }

    int count(int what) {
        int found = 0;
        switch (what) {
            case 0:
                return terms.size();
            case 1:
                for (int[] term : terms) {
                    found += one(term[0] == 'n');
                }
                return found;
            case 2:
                return axioms.size();
            case 3:
                for (boolean force : inForce) {
                    found += one(force);
                }
                return found;
            case 4:
                for (int d = 0; d < terms.size(); d++) {
                    for (int e = 0; e < terms.size(); e++) {
                        found += one(d != e && table()[d][e]);
                    }
                }
                return found;
            case 5:
                for (int d = 0; d < terms.size(); d++) {
                    found += one(table()[d][1]);
                }
                return found;
            case 6:
                for (int d = 0; d < terms.size(); d++) {
                    found += one(leastTwin(d) == d);
                }
                return found;
            default:
                return NONE;
        }
    }

    private boolean isTerm(int d) {
        return d >= 0 && d < terms.size();
    }

    private static boolean isRole(int r) {
        return r >= 0 && r < ROLES;
    }

    private static int one(boolean b) {
        return b ? 1 : 0;
    }

    private static int at(List<Integer> list, int i) {
        return i >= 0 && i < list.size() ? list.get(i) : NONE;
    }

    private int make(int[] term) {
        for (int d = 2; d < terms.size(); d++) {
            int[] old = terms.get(d);
            if (old[0] == term[0] && old[1] == term[1] && old[2] == term[2]) {
                return d;
            }
        }
        if (terms.size() >= 160) {
            return NONE;
        }
        below = null;
        terms.add(term);
        return terms.size() - 1;
    }

    private int tell(int kind, int x, int y, int z) {
        if (axioms.size() >= 100) {
            return NONE;
        }
        below = null;
        axioms.add(new int[] {kind, x, y, z});
        inForce.add(true);
        return axioms.size();
    }

    private List<Integer> namesAbove(int d) {
        List<Integer> found = new ArrayList<>();
        for (int n = 0; n < terms.size(); n++) {
            if (terms.get(n)[0] == 'n' && table()[d][n]) {
                found.add(n);
            }
        }
        return found;
    }

    private boolean equalTo(int d, int e) {
        return table()[d][e] && table()[e][d];
    }

    private boolean strictly(int d, int e) {
        return table()[d][e] && !table()[e][d];
    }

    private int leastTwin(int d) {
        int e = 0;
        while (!equalTo(d, e)) {
            e++;
        }
        return e;
    }

    private boolean[] forces() {
        boolean[] forces = new boolean[axioms.size()];
        for (int a = 0; a < forces.length; a++) {
            forces[a] = inForce.get(a);
        }
        return forces;
    }

    private boolean[][] table() {
        if (below == null) {
            below = close(terms, forces());
        }
        return below;
    }

    /** Goes through all rules for all descriptions until a whole round says nothing new. */
    private boolean[][] close(List<int[]> all, boolean[] kept) {
        int n = all.size();
        boolean[][] sub = new boolean[n][n];
        boolean[][][] link = new boolean[ROLES][n][n];
        for (int d = 0; d < n; d++) {
            sub[d][d] = true;
            sub[d][0] = true;
            sub[1][d] = true;
        }
        boolean changed = true;
        while (changed) {
            changed = false;
            for (int x = 0; x < n; x++) {
                for (int m = 0; m < n; m++) {
                    for (int y = 0; y < n && sub[x][m]; y++) {
                        changed |= set(sub[x], y, sub[m][y]);
                    }
                }
                for (int d = 0; d < n; d++) {
                    changed |= applyTerm(all.get(d), d, x, sub, link);
                }
                for (int a = 0; a < kept.length; a++) {
                    changed |= kept[a] && applyAxiom(axioms.get(a), x, sub, link);
                }
            }
        }
        return sub;
    }

    private static boolean applyTerm(int[] term, int d, int x, boolean[][] sub, boolean[][][] link) {
        boolean changed = false;
        if (term[0] == 'b') {
            changed |= set(sub[x], d, sub[x][term[1]] && sub[x][term[2]]);
            changed |= set(sub[x], term[1], sub[x][d]);
            changed |= set(sub[x], term[2], sub[x][d]);
        } else if (term[0] == 's') {
            changed |= set(link[term[1]][x], term[2], sub[x][d]);
            for (int y = 0; y < sub.length; y++) {
                changed |= set(sub[x], d, link[term[1]][x][y] && sub[y][term[2]]);
                changed |= set(sub[x], 1, link[term[1]][x][y] && sub[y][1]);
            }
        }
        return changed;
    }

    private static boolean applyAxiom(int[] axiom, int x, boolean[][] sub, boolean[][][] link) {
        boolean changed = false;
        int n = sub.length;
        if (axiom[0] == 'b' || axiom[0] == 'e') {
            changed |= set(sub[x], axiom[2], sub[x][axiom[1]]);
        }
        if (axiom[0] == 'e') {
            changed |= set(sub[x], axiom[1], sub[x][axiom[2]]);
        }
        if (axiom[0] == 'r') {
            for (int y = 0; y < n; y++) {
                changed |= set(link[axiom[2]][x], y, link[axiom[1]][x][y]);
            }
        }
        if (axiom[0] == 'c') {
            for (int y = 0; y < n; y++) {
                for (int z = 0; z < n && link[axiom[1]][x][y]; z++) {
                    changed |= set(link[axiom[3]][x], z, link[axiom[2]][y][z]);
                }
            }
        }
        return changed;
    }

    private static boolean set(boolean[] row, int at, boolean value) {
        if (!value || row[at]) {
            return false;
        }
        row[at] = true;
        return true;
    }
}
