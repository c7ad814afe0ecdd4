import java.util.Random;

/** Promises 24 and 25 against every order of every set of things, tried one by one. */
public final class PlanOracleTest {
    private static final Check CHECK = new Check();
    private static final int MOST = 6;

    private final int n;
    private final int[] worth = new int[MOST];
    private final int[] left = new int[MOST];
    private final int[] odds = new int[MOST];
    private final int[] under = new int[MOST];
    private int shut = 0;
    private int raised = 0;
    private int[] tides = new int[0];

    private int bestHope = 0;
    private int bestToil = 0;
    private int bestBits = 0;
    private int[] bestOrder = new int[0];
    private int[] bestTides = new int[0];

    private PlanOracleTest(int n) {
        this.n = n;
    }

    public static void main(String[] args) {
        Random random = new Random(17);
        for (int round = 0; round < 3000; round++) oneRound(random, round);
        CHECK.finish();
    }

    private static void oneRound(Random random, int round) {
        PlanOracleTest o = new PlanOracleTest(random.nextInt(MOST + 1));
        BellBook x = new BellBook();
        // Few different numbers, so that ties are many.
        int span = 1 + random.nextInt(9);
        for (int t = 0; t < o.n; t++) {
            o.worth[t] = random.nextInt(4);
            o.left[t] = 1 + random.nextInt(span);
            o.odds[t] = random.nextInt(3);
            x.thing(24, o.worth[t], o.left[t], o.odds[t]);
        }
        o.workSome(random, x);
        for (int t = 0; t < o.n; t++) {
            for (int other = 0; other < o.n; other++) {
                if (random.nextInt(5) == 0 && x.under(t, other, true) >= 0) o.under[t] |= 1 << other;
            }
            if (random.nextInt(8) == 0) {
                x.tangle(t, true);
                o.shut |= 1 << t;
            }
        }
        o.tides = new int[random.nextInt(6)];
        for (int i = 0; i < o.tides.length; i++) {
            o.tides[i] = 1 + random.nextInt(2 * span);
            x.tide(o.tides[i]);
        }
        o.tryAll(new int[0], new int[0], 0, 0);
        o.dueAll("round " + round, x);
    }

    private void workSome(Random random, BellBook x) {
        if (n == 0) return;
        x.go(0, true);
        x.out(0, 0, 24);
        for (int i = 0; i < 2; i++) {
            int t = random.nextInt(n);
            x.work(0, t);
            int minutes = 1 + random.nextInt(3);
            x.minutes(minutes);
            left[t] = Math.max(0, left[t] - minutes);
            if (left[t] == 0) raised |= 1 << t;
        }
        shut |= raised;
    }

    /** Orders come by the least numbers first, so that of equals the first found stays. */
    private void tryAll(int[] order, int[] when, int bits, int used) {
        keepIfBetter(order, when, bits);
        for (int t = 0; t < n; t++) {
            if (((bits | shut) >> t & 1) == 1 || (under[t] & ~raised & ~bits) != 0) continue;
            int tide = when.length == 0 ? 0 : when[when.length - 1];
            int usedThen = used;
            while (tide < tides.length && usedThen + left[t] > tides[tide]) {
                tide++;
                usedThen = 0;
            }
            if (tide < tides.length) tryAll(with(order, t), with(when, tide), bits | 1 << t, usedThen + left[t]);
        }
    }

    private void keepIfBetter(int[] order, int[] when, int bits) {
        int hope = 0;
        int toil = 0;
        for (int t : order) {
            hope += worth[t] * odds[t];
            toil += left[t];
        }
        boolean better = hope != bestHope ? hope > bestHope : toil != bestToil ? toil < bestToil : bits < bestBits;
        if (!better) return;
        bestHope = hope;
        bestToil = toil;
        bestBits = bits;
        bestOrder = order;
        bestTides = when;
    }

    private static int[] with(int[] row, int last) {
        int[] longer = java.util.Arrays.copyOf(row, row.length + 1);
        longer[row.length] = last;
        return longer;
    }

    private void dueAll(String when, BellBook x) {
        CHECK.due(when + ": told(4)", x.told(4), raised);
        CHECK.due(when + ": best(-1)", x.best(-1), bestHope);
        CHECK.due(when + ": best(-2)", x.best(-2), bestToil);
        CHECK.due(when + ": best(-3)", x.best(-3), bestOrder.length);
        for (int i = 0; i < 12; i++) {
            boolean is = i < bestOrder.length;
            CHECK.due(when + ": best(" + i + ")", x.best(i), is ? bestOrder[i] : -6);
            CHECK.due(when + ": tideOf(" + i + ")", x.tideOf(i), is ? bestTides[i] : -6);
        }
    }
}
