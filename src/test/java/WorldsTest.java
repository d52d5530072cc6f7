import java.util.ArrayList;
import java.util.List;
import java.util.Random;

/**
 * Holds answers against worlds, by the document's own words for these: a yes must hold in every small
 * world that fits, and each no must fail in one world that fits, which is read off the answers.
 */
public final class WorldsTest {
    private static final int NAMES = 3;
    private static final int ROLES = 2;
    private static final int DESCRIPTIONS = 11;

    /** A world of a number of things; what stands for which, as sets of bits. */
    private static final class World {
        final int things;
        final int[] named = new int[DESCRIPTIONS];
        final int[][] pairs;

        World(int things) {
            this.things = things;
            this.pairs = new int[ROLES][things];
        }
    }

    private final Checks checks;
    private final String title;
    private final Random random;
    private final TermServer server = new TermServer();
    private final List<int[]> terms = new ArrayList<>();
    private final List<int[]> axioms = new ArrayList<>();
    private final boolean[][] below = new boolean[DESCRIPTIONS][DESCRIPTIONS];
    private final boolean[][][] has = new boolean[ROLES][DESCRIPTIONS][DESCRIPTIONS];

    private WorldsTest(Checks checks, int seed) {
        this.checks = checks;
        this.random = new Random(seed);
        this.title = "seed " + seed + ": ";
    }

    public static void main(String[] args) {
        Checks checks = new Checks("WorldsTest");
        for (int seed = 0; seed < 300 && checks.allDue(); seed++) {
            WorldsTest test = new WorldsTest(checks, seed);
            test.makeTerms();
            if (!checks.allDue()) {
                break;
            }
            test.tellAxioms(2 + seed % 8);
            test.askAll();
            test.holdNoAgainstOwnWorld();
            test.holdYesAgainstSmallWorlds();
        }
        checks.end();
    }

    private void makeTerms() {
        terms.add(new int[] {'a'});
        terms.add(new int[] {'z'});
        for (int n = 0; n < NAMES; n++) {
            server.name();
            terms.add(new int[] {'n'});
        }
        for (int tries = 0; terms.size() < DESCRIPTIONS && tries < 120; tries++) {
            int d = random.nextInt(terms.size());
            int e = random.nextInt(terms.size());
            int r = random.nextInt(ROLES);
            boolean some = random.nextInt(3) > 0;
            int made = some ? server.some(r, d) : server.both(d, e);
            if (made == terms.size()) {
                terms.add(some ? new int[] {'s', r, d} : new int[] {'b', d, e});
            }
        }
        checks.due(title + "descriptions made", terms.size(), DESCRIPTIONS);
    }

    private void tellAxioms(int many) {
        for (int a = 0; a < many; a++) {
            int d = random.nextInt(DESCRIPTIONS);
            int e = random.nextInt(DESCRIPTIONS);
            int r = random.nextInt(ROLES);
            int s = random.nextInt(ROLES);
            int t = random.nextInt(ROLES);
            int kind = random.nextInt(8);
            if (kind < 4) {
                server.below(d, e);
                axioms.add(new int[] {'b', d, e});
            } else if (kind == 4) {
                server.equal(d, e);
                axioms.add(new int[] {'e', d, e});
            } else if (kind == 5) {
                server.roleBelow(r, s);
                axioms.add(new int[] {'r', r, s});
            } else {
                server.chain(r, s, t);
                axioms.add(new int[] {'c', r, s, t});
            }
        }
    }

    private void askAll() {
        for (int d = 0; d < DESCRIPTIONS; d++) {
            for (int e = 0; e < DESCRIPTIONS; e++) {
                below[d][e] = server.isBelow(d, e);
                for (int r = 0; r < ROLES; r++) {
                    has[r][d][e] = server.has(d, r, e);
                }
            }
        }
    }

    /** Its things are the descriptions that are not below NOTHING, each standing where it is said to. */
    private void holdNoAgainstOwnWorld() {
        if (below[0][1]) {
            for (int d = 0; d < DESCRIPTIONS; d++) {
                for (int e = 0; e < DESCRIPTIONS; e++) {
                    checks.due(title + "in no world " + d + " below " + e, below[d][e], true);
                }
            }
            return;
        }
        World world = new World(DESCRIPTIONS);
        int there = 0;
        for (int d = 0; d < DESCRIPTIONS; d++) {
            there |= below[d][1] ? 0 : 1 << d;
        }
        for (int d = 0; d < DESCRIPTIONS; d++) {
            for (int e = 0; e < DESCRIPTIONS && !below[d][1]; e++) {
                world.named[e] |= below[d][e] ? 1 << d : 0;
                for (int r = 0; r < ROLES; r++) {
                    world.pairs[r][d] |= has[r][d][e] ? 1 << e & there : 0;
                }
            }
        }
        int[] stands = stands(world, there);
        checks.due(title + "the answers' own world fits", fits(world, stands), true);
        for (int d = 0; d < DESCRIPTIONS; d++) {
            for (int e = 0; e < DESCRIPTIONS && !below[d][1]; e++) {
                checks.due(title + d + " stands for " + e, (stands[e] >> d & 1) != 0, below[d][e]);
            }
        }
    }

    private void holdYesAgainstSmallWorlds() {
        int fitting = 0;
        for (int things = 1; things <= 2; things++) {
            int nameBits = NAMES * things;
            int bits = nameBits + ROLES * things * things;
            for (int code = 0; code < 1 << bits; code++) {
                World world = worldOf(things, code, code >> nameBits);
                int[] stands = stands(world, (1 << things) - 1);
                if (fits(world, stands)) {
                    fitting++;
                    holdYes(world, stands);
                }
            }
        }
        checks.due(title + "a world fits, but ALL is nothing", fitting > 0 && below[0][1], false);
    }

    private static World worldOf(int things, int nameCode, int pairCode) {
        World world = new World(things);
        int all = (1 << things) - 1;
        for (int n = 0; n < NAMES; n++) {
            world.named[2 + n] = nameCode >> n * things & all;
        }
        for (int r = 0; r < ROLES; r++) {
            for (int x = 0; x < things; x++) {
                world.pairs[r][x] = pairCode >> (r * things + x) * things & all;
            }
        }
        return world;
    }

    private void holdYes(World world, int[] stands) {
        for (int d = 0; d < DESCRIPTIONS; d++) {
            for (int e = 0; e < DESCRIPTIONS; e++) {
                if (below[d][e] && (stands[d] & ~stands[e]) != 0) {
                    checks.due(title + d + " below " + e, true, false);
                }
                for (int r = 0; r < ROLES; r++) {
                    if (has[r][d][e] && (stands[d] & ~someOf(world, r, stands[e])) != 0) {
                        checks.due(title + d + " has " + r + " " + e, true, false);
                    }
                }
            }
        }
    }

    private static int someOf(World world, int r, int filler) {
        int found = 0;
        for (int x = 0; x < world.things; x++) {
            found |= (world.pairs[r][x] & filler) != 0 ? 1 << x : 0;
        }
        return found;
    }

    private int[] stands(World world, int all) {
        int[] stands = new int[DESCRIPTIONS];
        for (int d = 0; d < DESCRIPTIONS; d++) {
            int[] term = terms.get(d);
            switch (term[0]) {
                case 'a':
                    stands[d] = all;
                    break;
                case 'z':
                    stands[d] = 0;
                    break;
                case 'n':
                    stands[d] = world.named[d];
                    break;
                case 'b':
                    stands[d] = stands[term[1]] & stands[term[2]];
                    break;
                default:
                    stands[d] = someOf(world, term[1], stands[term[2]]);
                    break;
            }
        }
        return stands;
    }

    private boolean fits(World world, int[] stands) {
        for (int[] axiom : axioms) {
            boolean fits;
            switch (axiom[0]) {
                case 'b':
                    fits = (stands[axiom[1]] & ~stands[axiom[2]]) == 0;
                    break;
                case 'e':
                    fits = stands[axiom[1]] == stands[axiom[2]];
                    break;
                case 'r':
                    fits = rolesFit(world, axiom[1], axiom[2]);
                    break;
                default:
                    fits = chainFits(world, axiom[1], axiom[2], axiom[3]);
                    break;
            }
            if (!fits) {
                return false;
            }
        }
        return true;
    }

    private static boolean rolesFit(World world, int r, int s) {
        for (int x = 0; x < world.things; x++) {
            if ((world.pairs[r][x] & ~world.pairs[s][x]) != 0) {
                return false;
            }
        }
        return true;
    }

    private static boolean chainFits(World world, int r, int s, int t) {
        for (int x = 0; x < world.things; x++) {
            for (int y = 0; y < world.things; y++) {
                boolean pair = (world.pairs[r][x] >> y & 1) != 0;
                if (pair && (world.pairs[s][y] & ~world.pairs[t][x]) != 0) {
                    return false;
                }
            }
        }
        return true;
    }
}
