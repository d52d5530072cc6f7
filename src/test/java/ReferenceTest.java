import java.util.Random;
import java.util.function.IntSupplier;

/** Long mixed runs of calls, each answer held against the plain Reference. */
public final class ReferenceTest {
    private static final int REFUSED = Reference.REFUSED;
    private static final int REASONS_READ = 9;
    private static final int DESCRIPTIONS = 160;
    private static final int AXIOMS = 100;
    private static final int BEHIND_LIMITS = 512;
    private static final int[] ODD = {-1, -2, Integer.MIN_VALUE, Integer.MAX_VALUE, 160, 161, 101, 6};

    private final Checks checks;
    private final Random random;
    private final TermServer server = new TermServer();
    private final Reference reference = new Reference();
    private final String title;
    private final int mostTerms;
    private final int mostAxioms;
    private final int roles;
    private int calls = 0;
    private int seldom = 0;

    private ReferenceTest(Checks checks, int seed, int mostTerms, int mostAxioms, int roles) {
        this.checks = checks;
        this.random = new Random(seed);
        this.title = "seed " + seed;
        this.mostTerms = mostTerms;
        this.mostAxioms = mostAxioms;
        this.roles = roles;
    }

    public static void main(String[] args) {
        Checks checks = new Checks("ReferenceTest");
        int runs = args.length > 0 ? Integer.parseInt(args[0]) : 150;
        for (int seed = 0; seed < runs && checks.allDue(); seed++) {
            new ReferenceTest(checks, seed, 6 + seed % 17, 3 + seed % 19, 1 + seed % 6).run(512);
        }
        for (int seed = 1000; seed < 1000 + runs / 50 && checks.allDue(); seed++) {
            new ReferenceTest(checks, seed, 60, 60, 6).run(512);
        }
        for (int seed = 2000; seed < 2000 + runs / 30 && checks.allDue(); seed++) {
            ReferenceTest full = new ReferenceTest(checks, seed, BEHIND_LIMITS, BEHIND_LIMITS, 1 + seed % 6);
            full.makeNames(DESCRIPTIONS - 10 - seed % 40);
            full.run(512);
        }
        checks.end();
    }

    /** Names that are seldom spoken of, so that what is spoken of has the last numbers. */
    private void makeNames(int many) {
        for (int i = 0; i < many; i++) {
            same(title + " name", server::name, reference.name());
        }
        seldom = many - 3;
    }

    /** What an object answers after its 512th call is free, so no run goes on behind it. */
    private void run(int most) {
        while (calls < most && checks.allDue()) {
            boolean early = calls < mostTerms + mostAxioms;
            step(early && calls < 400 && random.nextInt(4) > 0 ? random.nextInt(8) : random.nextInt(20), most - calls);
        }
    }

    private void step(int kind, int callsLeft) {
        int d = term();
        int e = term();
        int r = role();
        int s = role();
        int t = role();
        int i = random.nextInt(9) - 1;
        String at = title + " call " + calls + ": ";
        boolean room = reference.size() < mostTerms && (reference.size() < DESCRIPTIONS || random.nextInt(9) == 0);
        boolean open = reference.told() < mostAxioms && (reference.told() < AXIOMS || random.nextInt(9) == 0);
        if (kind == 0 && room) {
            same(at + "name", server::name, reference.name());
        } else if (kind == 1 && room) {
            same(at + "both " + d + " " + e, () -> server.both(d, e), reference.both(d, e));
        } else if (kind <= 3 && room) {
            same(at + "some " + r + " " + d, () -> server.some(r, d), reference.some(r, d));
        } else if (kind <= 5 && open) {
            same(at + "below " + d + " " + e, () -> server.below(d, e), reference.below(d, e));
        } else if (kind == 6 && open) {
            tellOther(at, d, e, r, s, t);
        } else if (kind == 7 && random.nextInt(3) == 0) {
            int axiom = random.nextInt(reference.told() + 2);
            same(at + "retract " + axiom, () -> server.retract(axiom) ? 1 : 0, reference.retract(axiom));
        } else {
            ask(at, random.nextInt(callsLeft < REASONS_READ ? 9 : 11), d, e, r, i);
        }
    }

    private void tellOther(String at, int d, int e, int r, int s, int t) {
        switch (random.nextInt(3)) {
            case 0:
                same(at + "equal " + d + " " + e, () -> server.equal(d, e), reference.equal(d, e));
                break;
            case 1:
                same(at + "roleBelow " + r + " " + s, () -> server.roleBelow(r, s), reference.roleBelow(r, s));
                break;
            default:
                same(at + "chain " + r + " " + s + " " + t, () -> server.chain(r, s, t), reference.chain(r, s, t));
                break;
        }
    }

    private void ask(String at, int kind, int d, int e, int r, int i) {
        String pair = d + " " + e;
        switch (kind) {
            case 0:
                same(at + "isBelow " + pair, () -> server.isBelow(d, e) ? 1 : 0, reference.isBelow(d, e));
                break;
            case 1:
                same(at + "supers " + d, () -> server.supers(d), reference.supers(d));
                break;
            case 2:
                same(at + "sup " + d + " " + i, () -> server.sup(d, i), reference.sup(d, i));
                break;
            case 3:
                same(at + "direct " + pair, () -> server.direct(d, e) ? 1 : 0, reference.direct(d, e));
                break;
            case 4:
                same(at + "twin " + d, () -> server.twin(d), reference.twin(d));
                break;
            case 5:
                same(at + "common " + pair + " " + i, () -> server.common(d, e, i), reference.common(d, e, i));
                break;
            case 6:
                same(at + "why " + pair, () -> server.why(d, e), reference.why(d, e));
                break;
            case 7:
                same(at + "has " + d + " " + r + " " + e, () -> server.has(d, r, e) ? 1 : 0, reference.has(d, r, e));
                break;
            case 8:
                same(at + "count " + i, () -> server.count(i), reference.count(i));
                break;
            default:
                reasons(at);
                break;
        }
    }

    private void reasons(String at) {
        for (int i = -1; i < REASONS_READ - 1; i++) {
            int place = i;
            same(at + "reason " + i, () -> server.reason(place), reference.reason(i));
        }
    }

    private void same(String what, IntSupplier call, int want) {
        int got;
        calls++;
        try {
            got = call.getAsInt();
        } catch (IndexOutOfBoundsException e) {
            got = e.getClass() == IndexOutOfBoundsException.class ? REFUSED : Integer.MIN_VALUE;
        }
        checks.due(what, got, want);
    }

    private int term() {
        if (random.nextInt(60) == 0) {
            return ODD[random.nextInt(ODD.length)];
        }
        if (seldom == 0 || random.nextInt(30) == 0) {
            return random.nextInt(reference.size());
        }
        return seldom + random.nextInt(reference.size() - seldom);
    }

    private int role() {
        return random.nextInt(60) == 0 ? ODD[random.nextInt(ODD.length)] : random.nextInt(roles);
    }
}
