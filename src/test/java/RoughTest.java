import java.util.Random;

/** Long runs of calls with numbers of every kind: nothing is thrown, refusals change nothing, air is never lost. */
public final class RoughTest {
    private static final Check CHECK = new Check();
    private static final int CALLS = 27;
    private static final int[] EDGES = {
        Integer.MIN_VALUE, -7, -6, -5, -4, -3, -2, -1, 0, 1, 2, 3, 5, 6, 7, 10, 11, 12, 13, 24, 30, 31, 40, 48, 49,
        60, 61, 90, 91, 100, 101, 200, 201, 300, 301, 500, 501, 1000, 1001, 5000, 5001, Integer.MAX_VALUE};

    private final Random random;
    private final BellBook x = new BellBook();
    private final boolean mostlyFair;

    private RoughTest(int seed) {
        random = new Random(seed);
        mostlyFair = seed % 4 != 0;
    }

    public static void main(String[] args) {
        for (int seed = 0; seed < 60; seed++) new RoughTest(seed).run(seed);
        CHECK.finish();
    }

    private void run(int seed) {
        for (int i = 0; i < 512; i++) {
            int which = random.nextInt(CALLS);
            String call = "seed " + seed + ", call " + i + " of kind " + which;
            long[] ahead = Snapshot.of(x);
            int answer = call(which);
            CHECK.due(call + " is at least NONE", answer >= -6 ? 1 : 0, 1);
            // work, tell and other questions answer NONE without being refused.
            if (answer < 0 && answer != BellBook.NONE) Snapshot.dueSame(CHECK, call, x, ahead);
            dueSound(call);
        }
    }

    private void dueSound(String call) {
        CHECK.due(call + ": sent is there or spilled", x.air(0) + x.air(1) + x.air(4), x.air(2));
        CHECK.due(call + ": not more than it holds", x.air(0) + x.air(1) <= x.air(9) ? 1 : 0, 1);
        CHECK.due(call + ": no less than none", x.air(0) >= 0 && x.air(1) >= 0 && x.air(6) >= 0 ? 1 : 0, 1);
    }

    private int pick(int low, int high) {
        if (mostlyFair && random.nextInt(12) != 0) return low + random.nextInt(high - low + 1);
        return EDGES[random.nextInt(EDGES.length)];
    }

    private int call(int which) {
        switch (which) {
            case 0: return x.room(pick(100, 5000));
            case 1: return x.depth(random.nextBoolean() ? 0 : pick(0, 90));
            case 2: return random.nextInt(4) == 0 ? x.tip() : x.barrel(pick(1, 500));
            case 3: return x.breath(pick(1, 30));
            case 4: return x.limit(pick(1, 100));
            case 5: return x.minutes(pick(1, random.nextInt(5) == 0 ? 200 : 5));
            case 6: return x.air(pick(0, 12));
            case 7: return x.fewest(pick(1, 500));
            case 8: case 9: return x.go(pick(0, 5), random.nextInt(3) != 0);
            case 10: case 11: return x.out(pick(0, 5), pick(0, 2), pick(15, 33));
            case 12: return x.hose(pick(0, 2), pick(1, 12));
            case 13: return x.stay(pick(1, 60));
            case 14: return x.hang(pick(0, 48));
            case 15: return x.man(pick(0, 5), pick(0, 4));
            case 16: return x.thing(pick(15, 33), pick(0, 1000), pick(1, 20), pick(0, 100));
            case 17: return x.under(pick(0, 11), pick(0, 11), random.nextInt(3) != 0);
            case 18: return x.tangle(pick(0, 11), random.nextBoolean());
            case 19: return x.work(pick(0, 5), pick(-1, 11));
            case 20: return x.ofThing(pick(0, 11), pick(0, 8));
            case 21: return random.nextInt(6) == 0 ? x.calm() : x.tide(pick(1, 40));
            case 22: return random.nextBoolean() ? x.best(pick(-3, 12)) : x.tideOf(pick(0, 12));
            case 23: return x.sign(pick(0, 11), pick(1, 6), pick(1, 6));
            case 24: return random.nextInt(5) == 0 ? x.tell() : x.hear(pick(0, 7), pick(0, 7));
            case 25: return x.entry(pick(0, 1000) / 2, pick(0, 5), pick(0, 2));
            default: return asks();
        }
    }

    private int asks() {
        switch (random.nextInt(5)) {
            case 0: return x.heard(pick(0, 7), pick(0, 7));
            case 1: return x.tight();
            case 2: return x.free(pick(1, 10));
            case 3: return x.log(pick(0, 5), pick(0, 5));
            default: return x.told(pick(0, 9));
        }
    }
}
