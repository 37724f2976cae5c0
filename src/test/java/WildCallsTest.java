import java.util.Random;

/**
 * Calls with any arguments in any state, by fixed seeds: none may throw, and what is refused changes
 * nothing but finding() and findings().
 */
public final class WildCallsTest {
    private static final Due DUE = new Due("WildCallsTest");
    private static final int[] ODD = {Integer.MIN_VALUE, Integer.MIN_VALUE + 1, -1000, -32, -2, -1, 0, 1, 2, 3, 4, 5, 6,
        7, 9, 10, 12, 19, 20, 21, 31, 32, 63, 64, 199, 200, 441, 1763, 1764, Integer.MAX_VALUE - 1, Integer.MAX_VALUE};
    private static final int CALLS = 34;

    private final PianoHouse house = new PianoHouse();
    private final Random random;

    private WildCallsTest(long seed) {
        random = new Random(seed);
    }

    public static void main(String[] args) {
        for (int seed = 0; seed < 3000 && !DUE.anyWrong(); seed++) new WildCallsTest(seed).run(seed);
        DUE.end();
    }

    private void run(int seed) {
        for (int i = 0; i < 500; i++) {
            long digest = house.digest();
            int undos = house.many(3), drafts = house.many(4), first = house.step(0), turns = house.count(0);
            int[] findings = new int[5];
            for (int f = 1; f < 5; f++) findings[f] = house.findings(f);
            int call = random.nextInt(CALLS);
            int got;
            try {
                got = answer(call);
            } catch (RuntimeException thrown) {
                DUE.is("run " + seed + ", call " + call + " threw " + thrown, 1, 0);
                return;
            }
            String at = "run " + seed + ", call " + i + " (" + call + ") answered " + got + ": ";
            if (got == -1 || got == -2 || got == -3 || got == -4) {
                DUE.is(at + "digest", house.digest(), digest);
                DUE.is(at + "many(3)", house.many(3), undos);
                if (call != 32) DUE.is(at + "many(4)", house.many(4), drafts);
                DUE.is(at + "step(0)", house.step(0), first);
                DUE.is(at + "count(0)", house.count(0), turns);
            }
            for (int f = 1; f < 5; f++) {
                boolean now = got == -3 && house.finding() == f;
                DUE.is(at + "findings " + f, house.findings(f), findings[f] + (now ? 1 : 0));
            }
        }
    }

    /** Mostly a small number, now and then an odd one. */
    private int any() {
        return random.nextInt(5) == 0 ? ODD[random.nextInt(ODD.length)] : random.nextInt(5);
    }

    private int answer(int call) {
        boolean is = random.nextBoolean();
        switch (call) {
            case 0: return random.nextInt(8) == 0 ? house.house(any(), any()) : house.many(any());
            case 1: return house.thing(is);
            case 2: return house.fill(any(), any(), any(), any(), any());
            case 3: return house.clear(any(), any(), any());
            case 4: return house.out(any(), is);
            case 5: return house.undo();
            case 6: return house.open(any(), any());
            case 7: return house.on(any(), any());
            case 8: return random.nextInt(8) == 0 ? house.rows(any()) : house.row(0, any());
            case 9: return house.row(any(), any());
            case 10: return house.tear(any());
            case 11: return house.copy(any(), any(), any());
            case 12: return house.told(any());
            case 13: return house.hold(any(), any());
            case 14: return house.load(any());
            case 15: return house.free(any(), any(), any());
            case 16: return house.turning(any(), any());
            case 17: return house.kind(any(), any(), any());
            case 18: return house.steps(any(), any(), any(), any());
            case 19: return house.pieces(any());
            case 20: return house.piece(any(), any(), any());
            case 21: return house.area(any(), any(), any());
            case 22: return house.slide(any(), any(), any(), any());
            case 23: return house.end(is, any(), any(), any());
            case 24: return house.way();
            case 25: return house.step(any());
            case 26: return house.count(any());
            case 27: return house.reached();
            case 28: return house.reaches(any(), any(), any());
            case 29: return house.held();
            case 30: return house.doors();
            case 31: return house.narrow(any());
            case 32: return random.nextInt(8) == 0 ? house.check() : house.draft(any());
            default: return house.findings(any());
        }
    }
}
