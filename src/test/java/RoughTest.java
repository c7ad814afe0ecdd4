import java.util.ArrayList;
import java.util.List;
import java.util.Random;

/**
 * Long runs of calls with numbers of every kind: nothing is thrown, and without the calls that were refused, or without
 * those that only ask, all others answer the same.
 */
public final class RoughTest {
    private static final Check CHECK = new Check();
    private static final int CALLS = 512;
    private static final String[] QUESTIONS = {
        "air(", "fewest(", "man(", "ofThing(", "best(", "tideOf(", "heard(", "tight(", "free(", "log(", "told("};
    private static final int[] EDGES = {
        Integer.MIN_VALUE, -7, -6, -5, -4, -3, -2, -1, 0, 1, 2, 3, 5, 6, 7, 10, 11, 12, 13, 24, 30, 31, 40, 48, 49,
        60, 61, 90, 91, 100, 101, 200, 201, 300, 301, 500, 501, 1000, 1001, 5000, 5001, Integer.MAX_VALUE};

    private final Random random;
    private final boolean mostlyFair;
    private final List<String> calls = new ArrayList<>();
    private final List<Integer> answers = new ArrayList<>();
    private int logMinute = 0;

    private RoughTest(int seed) {
        random = new Random(seed);
        mostlyFair = seed % 4 != 0;
    }

    public static void main(String[] args) {
        for (int seed = 0; seed < 600; seed++) new RoughTest(seed).run("seed " + seed);
        CHECK.finish();
    }

    private void run(String name) {
        Script whole = new Script();
        for (int i = 0; i < CALLS; i++) {
            String call = anyCall();
            int answer = whole.run(call);
            calls.add(call);
            answers.add(answer);
            CHECK.due(name + ": " + call + " is at least NONE", answer >= -6 ? 1 : 0, 1);
        }
        Script unrefused = new Script();
        Script unasked = new Script();
        for (int i = 0; i < CALLS; i++) {
            String call = calls.get(i);
            int answer = answers.get(i);
            boolean isRefused = answer < 0 && answer != -6;
            if (!isRefused) CHECK.due(name + ", without refused calls: call " + i + ", " + call, unrefused.run(call), answer);
            if (!isQuestion(call)) CHECK.due(name + ", without questions: call " + i + ", " + call, unasked.run(call), answer);
        }
        dueSound(name, unasked);
    }

    private static boolean isQuestion(String call) {
        for (String question : QUESTIONS) {
            if (call.startsWith(question)) return true;
        }
        return false;
    }

    private static void dueSound(String name, Script x) {
        int[] air = new int[13];
        for (int i = 0; i < 13; i++) air[i] = x.run("air(" + i + ")");
        CHECK.due(name + ": sent is there or spilled", air[0] + air[1] + air[4], air[2]);
        CHECK.due(name + ": not more than it holds", air[0] + air[1] <= air[9] ? 1 : 0, 1);
        CHECK.due(name + ": no less than none", air[0] >= 0 && air[1] >= 0 && air[6] >= 0 ? 1 : 0, 1);
        CHECK.due(name + ": no more foul than was breathed", air[1] <= air[3] ? 1 : 0, 1);
    }

    private String pick(int low, int high) {
        boolean fair = mostlyFair && random.nextInt(12) != 0;
        return Integer.toString(fair ? low + random.nextInt(high - low + 1) : EDGES[random.nextInt(EDGES.length)]);
    }

    private static String call(String name, Object... numbers) {
        StringBuilder text = new StringBuilder(name).append('(');
        for (int i = 0; i < numbers.length; i++) text.append(i == 0 ? "" : ", ").append(numbers[i]);
        return text.append(')').toString();
    }

    private String anyCall() {
        switch (random.nextInt(5)) {
            case 0: return bellCall();
            case 1: return menCall();
            case 2: return wreckCall();
            case 3: return restCall();
            default: return question();
        }
    }

    private String bellCall() {
        switch (random.nextInt(8)) {
            case 0: return call("room", pick(100, 5000));
            case 1: return call("depth", random.nextBoolean() ? 0 : pick(0, 90));
            case 2: return random.nextInt(3) == 0 ? call("tip") : call("barrel", pick(1, 500));
            case 3: return call("breath", pick(1, 30));
            case 4: return call("limit", pick(1, 100));
            default: return call("minutes", pick(1, random.nextInt(5) == 0 ? 200 : 5));
        }
    }

    private String menCall() {
        switch (random.nextInt(9)) {
            case 0: case 1: case 2: return call("go", pick(0, 5), random.nextInt(3) != 0);
            case 3: case 4: case 5: return call("out", pick(0, 5), pick(0, 2), pick(15, 33));
            case 6: return call("hose", pick(0, 2), pick(1, 12));
            case 7: return call("stay", pick(1, 60));
            default: return call("hang", pick(0, 48));
        }
    }

    private String wreckCall() {
        switch (random.nextInt(6)) {
            case 0: return call("thing", pick(15, 33), pick(0, 1000), pick(1, 20), pick(0, 100));
            case 1: return call("under", pick(0, 11), pick(0, 11), random.nextInt(3) != 0);
            case 2: return call("tangle", pick(0, 11), random.nextBoolean());
            case 3: case 4: return call("work", pick(0, 5), pick(-1, 11));
            default: return random.nextInt(6) == 0 ? call("calm") : call("tide", pick(1, 40));
        }
    }

    private String restCall() {
        switch (random.nextInt(3)) {
            case 0: return call("sign", pick(0, 11), pick(1, 6), pick(1, 6));
            case 1: return random.nextInt(5) == 0 ? call("tell") : call("hear", pick(0, 7), pick(0, 7));
            default:
                logMinute = Math.min(1000, logMinute + random.nextInt(9));
                return call("entry", random.nextInt(9) == 0 ? pick(0, 1000) : logMinute, pick(0, 5), pick(0, 2));
        }
    }

    private String question() {
        switch (random.nextInt(11)) {
            case 0: return call("air", pick(0, 12));
            case 1: return call("fewest", pick(1, 500));
            case 2: return call("man", pick(0, 5), pick(0, 4));
            case 3: return call("ofThing", pick(0, 11), pick(0, 8));
            case 4: return call("best", pick(-3, 12));
            case 5: return call("tideOf", pick(0, 12));
            case 6: return call("heard", pick(0, 7), pick(0, 7));
            case 7: return call("tight");
            case 8: return call("free", pick(1, 10));
            case 9: return call("log", pick(0, 5), pick(0, 5));
            default: return call("told", pick(0, 9));
        }
    }
}
