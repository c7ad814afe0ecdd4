import java.util.ArrayList;
import java.util.List;

/**
 * Boundary cases, each on new objects of its own, told under the sentence of the document that is broken if the case
 * fails. A sentence without a case is a fault of the test.
 */
final class Edges {
    static final int UNKNOWN = -1, OUTSIDE = -2, STATE = -3, FULL = -4, NO = -5, NONE = -6;

    private static final List<String> WITNESS = witness();

    private final Check check = new Check();
    private String sentence = "";
    private String ahead = "";
    private int cases = 1;

    /** The document's words that the next cases are about. */
    void sentence(String words) {
        endSentence();
        sentence = words;
        ahead = "";
        cases = 0;
    }

    /** What is called on each new object ahead of the next cases. */
    void ahead(String calls) {
        ahead = calls;
    }

    /** The last of the calls answers what is due. */
    void due(String calls, int want) {
        cases++;
        Script object = new Script();
        object.run(ahead);
        check.due(label(calls), object.run(calls), want);
    }

    /** For answers of objects that the test keeps itself. */
    void same(String what, int got, int want) {
        cases++;
        check.due("<" + sentence + "> " + what, got, want);
    }

    /** Cases for 0, 1, 2 and so on in the place of #. */
    void row(String calls, int... want) {
        for (int i = 0; i < want.length; i++) due(calls.replace("#", Integer.toString(i)), want[i]);
    }

    /** The call answers what is due and changes nothing that any other call shows. */
    void keeps(String call, int want) {
        cases++;
        Script object = new Script();
        Script twin = new Script();
        object.run(ahead);
        twin.run(ahead);
        check.due(label(call), object.run(call), want);
        for (String ask : WITNESS) {
            int is = object.run(ask);
            int was = twin.run(ask);
            if (is != was) check.due(label(call) + " changed " + ask, is, was);
        }
    }

    /** The call is refused for each of these words in the place of #. */
    void refuses(String call, int want, String... words) {
        for (String word : words) keeps(call.replace("#", word), want);
    }

    void finish() {
        endSentence();
        check.finish();
    }

    private String label(String calls) {
        return "<" + sentence + "> " + (ahead.isEmpty() ? "" : ahead + "; ") + calls;
    }

    private void endSentence() {
        if (cases == 0) check.due("<" + sentence + "> has no case", 0, 1);
    }

    /** First all that asks, then all that tells by changing: no two objects that differ answer the same to all. */
    private static List<String> witness() {
        List<String> calls = new ArrayList<>();
        ask(calls, "air(#)", 0, 12);
        ask(calls, "told(#)", 0, 9);
        for (int man = 0; man < 6; man++) {
            ask(calls, "man(" + man + ", #)", 0, 4);
            ask(calls, "log(" + man + ", #)", 0, 5);
        }
        for (int thing = 0; thing < 12; thing++) ask(calls, "ofThing(" + thing + ", #)", 0, 8);
        ask(calls, "best(#)", -3, 11);
        ask(calls, "tideOf(#)", 0, 11);
        calls.add("tight()");
        ask(calls, "free(#)", 1, 10);
        for (int a = 0; a <= 7; a++) ask(calls, "heard(" + a + ", #)", 0, 7);
        for (int b : new int[] {1, 3, 40, 500}) calls.add("fewest(" + b + ")");
        calls.add("tell()");
        calls.add("minutes(2)");
        ask(calls, "air(#)", 0, 12);
        ask(calls, "man(#, 3)", 0, 5);
        calls.add("told(4)");
        ask(calls, "go(#, true)", 0, 5);
        ask(calls, "hose(#, 5)", 0, 2);
        for (String call : new String[] {"stay(20)", "breath(5)", "limit(50)", "hang(3)", "barrel(1)", "hear(1, 1)",
            "thing(0, 1, 1, 1)", "tide(1)", "entry(1000, 5, 2)", "depth(0)"}) calls.add(call);
        ask(calls, "go(#, false)", 0, 5);
        calls.add("room(150)");
        calls.add("calm()");
        return calls;
    }

    private static void ask(List<String> calls, String call, int from, int to) {
        for (int i = from; i <= to; i++) calls.add(call.replace("#", Integer.toString(i)));
    }
}
