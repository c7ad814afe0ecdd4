import java.util.ArrayList;
import java.util.List;
import java.util.Random;

/**
 * All promises at once: runs of 512 calls on a BellBook and on the Model, each call with the same answer. The runs look
 * at the model to get far: men go where their things lie, barrels and air run out, rows and logs get full.
 */
public final class ModelTest {
    private static final Check CHECK = new Check();
    private static final int RUNS = 700;
    private static final int CALLS = 512;
    private static final int PARTS = 6;
    private static final int[] EDGES = {
        Integer.MIN_VALUE, -7, -6, -5, -4, -3, -2, -1, 0, 1, 2, 3, 5, 6, 7, 8, 10, 11, 12, 13, 24, 30, 31, 40, 48, 49,
        60, 61, 90, 91, 99, 100, 101, 200, 201, 300, 301, 500, 501, 1000, 1001, 5000, 5001, Integer.MAX_VALUE};

    private final String name;
    private final Random random;
    private final Model model = new Model();
    private final Script book = new Script();
    private final Script twin = new Script(model);
    // A part of the document that most calls of the run are of; PARTS: none.
    private final int theme;
    private final int longestGap;
    // With few men at work the ship is often reached again, and the room can be changed.
    private final int lastMan;
    private final int mostThings;
    private final int longestWork;
    private final int mostTugs;
    private final boolean shallow;
    // Things of few different numbers: plans are often equal in hope, and in minutes too.
    private final boolean alike;
    private final List<String> past = new ArrayList<>();
    private int logMinute = 0;

    private ModelTest(int seed) {
        name = "run " + seed;
        random = new Random(seed);
        theme = random.nextInt(PARTS + 1);
        longestGap = random.nextInt(3) == 0 ? 60 : 9;
        lastMan = random.nextInt(6);
        mostThings = random.nextInt(20) == 0 ? 12 : random.nextInt(9);
        longestWork = random.nextInt(4) == 0 ? 200 : 2 + random.nextInt(12);
        mostTugs = 2 + random.nextInt(5);
        shallow = random.nextBoolean();
        alike = random.nextBoolean();
    }

    public static void main(String[] args) {
        for (int seed = 0; seed < RUNS; seed++) new ModelTest(seed).run();
        CHECK.finish();
    }

    private void run() {
        for (int i = 0; i < CALLS; i++) {
            String call = nextCall();
            past.add(call);
            int got = book.run(call);
            int want = twin.run(call);
            CHECK.due(got == want ? call : name + ": " + String.join("; ", past), got, want);
            // What follows a wrong answer tells nothing new.
            if (got != want) return;
        }
    }

    private String nextCall() {
        int part = theme < PARTS && random.nextInt(3) != 0 ? theme : random.nextInt(PARTS);
        boolean asks = random.nextInt(3) == 0;
        switch (part) {
            case 0: return asks ? bellQuestion() : bellCall();
            case 1: return asks ? call("man", pick(0, 5), pick(0, 4)) : menCall();
            case 2: return asks ? wreckQuestion() : wreckCall();
            case 3: return asks ? signalQuestion() : signalCall();
            case 4: return asks ? logQuestion() : entryCall();
            default: return purpose(random.nextInt(lastMan + 1));
        }
    }

    private int pick(int low, int high) {
        return random.nextInt(25) == 0 ? EDGES[random.nextInt(EDGES.length)] : low + random.nextInt(high - low + 1);
    }

    private static String call(String name, Object... numbers) {
        StringBuilder text = new StringBuilder(name).append('(');
        for (int i = 0; i < numbers.length; i++) text.append(i == 0 ? "" : ", ").append(numbers[i]);
        return text.append(')').toString();
    }

    /** What brings a man nearer to his work, or back from it. */
    private String purpose(int man) {
        Model.Man m = model.men[man];
        if (m.told == null && !model.things.isEmpty()) return call("work", man, random.nextInt(model.things.size()));
        if (m.where == 0) return model.air.depth != 0 ? call("depth", 0) : call("go", man, true);
        if (m.where == 1) return m.told == null ? call("go", man, false) : call("out", man, pick(0, 2), m.told.square);
        boolean isAtWork = m.told != null && m.told.square == m.square && !m.told.isRaised();
        if (isAtWork && random.nextInt(4) != 0) return call("minutes", 1 + random.nextInt(4));
        if (random.nextBoolean()) return call("go", man, true);
        return call("work", man, pick(-1, Math.max(0, model.things.size() - 1)));
    }

    private String bellCall() {
        switch (random.nextInt(9)) {
            case 0: return call("room", random.nextBoolean() ? pick(100, 200) : pick(100, 5000));
            case 1: case 2: return call("depth", pick(0, shallow ? 3 : 90));
            case 3: return random.nextInt(3) == 0 ? call("tip") : call("barrel", pick(1, 60));
            case 4: return call("barrel", pick(1, 500));
            case 5: return call("breath", pick(1, 30));
            case 6: return call("limit", pick(1, 100));
            default: return call("minutes", pick(1, random.nextInt(5) == 0 ? 200 : 5));
        }
    }

    private String menCall() {
        switch (random.nextInt(9)) {
            case 0: case 1: return call("go", pick(0, lastMan), random.nextInt(3) != 0);
            case 2: case 3: case 4: return call("out", pick(0, lastMan), pick(0, 2), pick(0, 48));
            case 5: case 6: return call("hose", pick(0, 2), pick(1, 12));
            case 7: return call("stay", pick(1, 60));
            default: return call("hang", pick(0, 48));
        }
    }

    private String wreckCall() {
        switch (random.nextInt(6)) {
            case 0: case 1:
                if (model.things.size() >= mostThings && mostThings < 12) return call("told", 3);
                if (alike) return call("thing", pick(0, 48), pick(0, 2), pick(1, 3), pick(0, 2));
                return call("thing", pick(0, 48), pick(0, 1000), pick(1, longestWork), pick(0, 100));
            case 2: return call("under", anyThing(), anyThing(), random.nextInt(3) != 0);
            case 3: return call("tangle", anyThing(), random.nextInt(4) == 0);
            case 4: return call("work", pick(0, 5), pick(-1, mostThings));
            default:
                if (random.nextInt(8) == 0) return call("calm");
                return call("tide", pick(1, alike ? 6 : Math.min(300, 2 * longestWork)));
        }
    }

    private int anyThing() {
        return pick(0, Math.max(0, model.things.size() - 1));
    }

    private String signalCall() {
        if (random.nextBoolean()) return random.nextInt(4) == 0 ? call("tell") : call("hear", pick(0, 7), pick(0, 7));
        if (random.nextInt(5) == 0) return call("sign", pick(0, 11), 0, 0);
        return call("sign", pick(0, 11), pick(1, mostTugs), pick(1, mostTugs));
    }

    private String entryCall() {
        if (random.nextInt(3) == 0) logMinute = Math.min(1000, logMinute + random.nextInt(longestGap));
        int minute = random.nextInt(20) == 0 ? pick(0, 1000) : logMinute;
        return call("entry", minute, pick(0, 5), random.nextBoolean() ? 2 : pick(0, 2));
    }

    private String bellQuestion() {
        if (random.nextInt(3) != 0) return call("air", pick(0, 12));
        return call("fewest", pick(1, random.nextBoolean() ? 40 : 500));
    }

    private String wreckQuestion() {
        switch (random.nextInt(3)) {
            case 0: return call("ofThing", anyThing(), pick(0, 8));
            case 1: return call("best", pick(-3, model.things.size()));
            default: return call("tideOf", pick(0, model.things.size()));
        }
    }

    private String signalQuestion() {
        switch (random.nextInt(3)) {
            case 0: return call("heard", pick(0, 7), pick(0, 7));
            case 1: return call("tight");
            default: return call("free", pick(1, 10));
        }
    }

    private String logQuestion() {
        return random.nextInt(3) == 0 ? call("told", pick(0, 9)) : call("log", pick(0, 5), pick(0, 5));
    }
}
