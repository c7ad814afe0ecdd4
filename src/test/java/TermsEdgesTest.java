/** What the document says of all calls: the first refusal that fits, refusals change nothing, 512 calls. */
public final class TermsEdgesTest {
    private static final Edges E = new Edges();
    private static final String ALL_IN = "go(0, true); go(1, true); go(2, true); go(3, true); go(4, true); go(5, true)";
    // Something of everything: each part of the object has more to lose than a new one.
    private static final String BUSY = "room(200); breath(7); limit(9); stay(3); hang(17); hose(0, 6); hose(1, 3);"
        + "thing(17, 50, 4, 60); thing(18, 70, 3, 80); thing(17, 90, 2, 10); under(0, 1, true); tangle(2, true);"
        + "go(0, true); go(1, true); go(2, true); go(3, true); depth(4); barrel(30); out(0, 0, 18); out(1, 0, 17);"
        + "out(2, 1, 17); work(0, 1); work(1, 0); work(2, 2); minutes(2); tide(7); tide(4); sign(1, 2, 3); sign(4, 5, 1);"
        + "hear(2, 2); hear(5, 2); entry(3, 0, 2); entry(9, 0, 2); entry(9, 1, 0); entry(14, 0, 1)";

    public static void main(String[] args) {
        constants();
        firstThatFitsBell();
        firstThatFitsMen();
        firstThatFitsWreck();
        firstThatFitsSignalsAndLog();
        changeNothing();
        questionsChangeNothing();
        cut();
        use();
        greatestCounts();
        objectsApart();
        E.finish();
    }

    private static void constants() {
        E.sentence("NONE = -6, UNKNOWN = -1, OUTSIDE = -2, STATE = -3, FULL = -4, NO = -5");
        int[] named = {BellBook.UNKNOWN, BellBook.OUTSIDE, BellBook.STATE, BellBook.FULL, BellBook.NO, BellBook.NONE};
        String[] calls = {"go(6, true)", "room(99)", "out(0, 0, 24)", "5 * hear(1, 1)", "go(0, false)", "tell()"};
        for (int i = 0; i < 6; i++) {
            E.same("the constant", named[i], -1 - i);
            E.due(calls[i], -1 - i);
        }
    }

    private static void firstThatFitsBell() {
        E.sentence("Calls that are refused answer, the first of these that fits (the bell)");
        E.ahead("go(0, true); depth(3)");
        E.refuses("room(#)", Edges.OUTSIDE, "99", "5001");
        E.ahead("go(0, true); out(0, 0, 24)");
        E.refuses("depth(#)", Edges.OUTSIDE, "-1", "91");
        E.refuses("room(#)", Edges.OUTSIDE, "99", "5001");
        E.ahead("40 * barrel(1)");
        E.refuses("barrel(#)", Edges.OUTSIDE, "0", "501");
    }

    private static void firstThatFitsMen() {
        E.sentence("Calls that are refused answer, the first of these that fits (men)");
        E.ahead("go(0, true); go(1, true); go(2, true); go(3, true); depth(3); out(0, 0, 24); out(1, 0, 24);"
            + "out(2, 1, 24)");
        E.keeps("go(6, true)", Edges.UNKNOWN);
        E.keeps("go(-1, false)", Edges.UNKNOWN);
        // DEPTH is not 0, and he is so already; or he is OUT and would go ABOARD.
        E.keeps("go(4, false)", Edges.STATE);
        E.keeps("go(0, false)", Edges.STATE);
        E.keeps("go(3, true)", Edges.NO);
        // ABOARD, the hose has two, and it is too far; then one less each.
        E.keeps("out(6, 0, 0)", Edges.UNKNOWN);
        E.keeps("out(4, 3, 0)", Edges.UNKNOWN);
        E.keeps("out(4, 0, 49)", Edges.UNKNOWN);
        E.keeps("out(4, 0, 0)", Edges.STATE);
        E.keeps("out(2, 0, 0)", Edges.STATE);
        E.keeps("out(3, 0, 0)", Edges.FULL);
        E.keeps("out(3, 1, 0)", Edges.NO);
        E.keeps("out(2, 1, 0)", Edges.NO);
        E.keeps("hose(3, 0)", Edges.UNKNOWN);
        E.keeps("hose(-1, 13)", Edges.UNKNOWN);
        E.keeps("hose(0, 0)", Edges.OUTSIDE);
        E.keeps("hose(1, 13)", Edges.OUTSIDE);
        E.keeps("hose(1, 12)", Edges.STATE);
        E.keeps("hang(49)", Edges.UNKNOWN);
        E.keeps("hang(48)", Edges.STATE);
        E.keeps("man(6, 5)", Edges.UNKNOWN);
        E.keeps("man(5, 5)", Edges.OUTSIDE);
    }

    private static void firstThatFitsWreck() {
        E.sentence("Calls that are refused answer, the first of these that fits (the wreck)");
        E.ahead("12 * thing(24, 1, 1, 1); 5 * tide(3)");
        E.keeps("thing(49, 1001, 1, 1)", Edges.UNKNOWN);
        E.keeps("thing(49, 1, 1, 1)", Edges.UNKNOWN);
        E.keeps("thing(48, 1001, 1, 1)", Edges.OUTSIDE);
        E.keeps("thing(48, 1000, 1, 1)", Edges.FULL);
        E.keeps("under(3, 3, true)", Edges.UNKNOWN);
        E.keeps("ofThing(12, 9)", Edges.UNKNOWN);
        E.keeps("ofThing(11, 9)", Edges.OUTSIDE);
        E.keeps("work(6, 12)", Edges.UNKNOWN);
        E.keeps("tide(301)", Edges.OUTSIDE);
        E.keeps("tide(300)", Edges.FULL);
    }

    private static void firstThatFitsSignalsAndLog() {
        E.sentence("Calls that are refused answer, the first of these that fits (signals, the log)");
        E.ahead("sign(0, 1, 1); 4 * hear(1, 1); entry(5, 0, 2)");
        E.keeps("sign(12, 7, 1)", Edges.UNKNOWN);
        E.keeps("sign(12, 1, 1)", Edges.UNKNOWN);
        E.keeps("sign(1, 7, 1)", Edges.OUTSIDE);
        E.keeps("sign(1, 1, 1)", Edges.NO);
        E.keeps("hear(8, 1)", Edges.OUTSIDE);
        E.keeps("hear(7, 1)", Edges.FULL);
        E.keeps("entry(4, 6, 3)", Edges.UNKNOWN);
        E.keeps("entry(4, 5, 3)", Edges.OUTSIDE);
        E.keeps("entry(4, 5, 2)", Edges.NO);
        E.keeps("log(6, 6)", Edges.UNKNOWN);
        E.keeps("log(5, 6)", Edges.OUTSIDE);
        StringBuilder forty = new StringBuilder();
        for (int i = 0; i < 40; i++) forty.append("entry(").append(i + 1).append(", 0, 2); ");
        E.ahead(forty.toString());
        E.keeps("entry(0, 6, 3)", Edges.UNKNOWN);
        E.keeps("entry(0, 5, 3)", Edges.OUTSIDE);
        E.keeps("entry(0, 5, 2)", Edges.FULL);
        E.keeps("entry(40, 0, 2)", Edges.FULL);
    }

    private static void changeNothing() {
        E.sentence("They change nothing.");
        E.ahead(BUSY);
        E.refuses("room(#)", Edges.OUTSIDE, "99", "5001", "MIN", "MAX");
        E.refuses("room(#)", Edges.STATE, "100", "200", "5000");
        E.refuses("depth(#)", Edges.OUTSIDE, "-1", "91", "MIN", "MAX");
        E.refuses("depth(#)", Edges.STATE, "0", "4", "90");
        E.refuses("barrel(#)", Edges.OUTSIDE, "0", "501", "MIN", "MAX");
        E.refuses("breath(#)", Edges.OUTSIDE, "0", "31", "MIN", "MAX");
        E.refuses("limit(#)", Edges.OUTSIDE, "0", "101", "MIN", "MAX");
        E.refuses("minutes(#)", Edges.OUTSIDE, "0", "201", "MIN", "MAX");
        E.refuses("air(#)", Edges.OUTSIDE, "-1", "13", "MIN", "MAX");
        E.refuses("fewest(#)", Edges.OUTSIDE, "0", "501", "MIN", "MAX");
        E.refuses("go(#, true)", Edges.UNKNOWN, "-1", "6", "MIN", "MAX");
        E.refuses("go(#, true)", Edges.STATE, "4", "5");
        E.refuses("go(#, true)", Edges.NO, "3");
        E.refuses("go(#, false)", Edges.STATE, "0", "1", "2", "3", "4", "5");
        E.refuses("out(#, 2, 17)", Edges.UNKNOWN, "-1", "6", "MIN", "MAX");
        E.refuses("out(3, #, 17)", Edges.UNKNOWN, "-1", "3", "MIN", "MAX");
        E.refuses("out(3, 2, #)", Edges.UNKNOWN, "-1", "49", "MIN", "MAX");
        E.refuses("out(#, 2, 17)", Edges.STATE, "0", "1", "2", "4", "5");
        E.refuses("out(3, #, 17)", Edges.FULL, "0");
        E.refuses("out(3, 1, #)", Edges.NO, "48", "0", "34", "42");
        E.refuses("out(2, 1, #)", Edges.NO, "48");
        E.refuses("hose(#, 2)", Edges.STATE, "0", "1");
        E.refuses("hose(2, #)", Edges.OUTSIDE, "0", "13", "MIN", "MAX");
        E.refuses("stay(#)", Edges.OUTSIDE, "0", "61", "MIN", "MAX");
        E.refuses("hang(#)", Edges.STATE, "17", "0", "48");
        E.refuses("thing(17, #, 1, 1)", Edges.OUTSIDE, "-1", "1001");
        E.refuses("under(1, #, true)", Edges.NO, "0");
        E.refuses("under(#, 1, true)", Edges.UNKNOWN, "1", "3", "-1");
        E.refuses("tangle(#, false)", Edges.UNKNOWN, "3", "-1", "34");
        E.refuses("work(0, #)", Edges.UNKNOWN, "3", "-2");
        E.refuses("tide(#)", Edges.OUTSIDE, "0", "301");
        E.refuses("best(#)", Edges.OUTSIDE, "-4", "MIN");
        E.refuses("sign(4, #, 3)", Edges.OUTSIDE, "0", "7");
        E.refuses("sign(#, 5, 1)", Edges.NO, "1", "0", "11");
        E.refuses("hear(#, 3)", Edges.OUTSIDE, "-1", "8");
        E.refuses("free(#)", Edges.OUTSIDE, "0", "11");
        E.refuses("entry(#, 0, 2)", Edges.NO, "13", "14", "0");
        E.refuses("entry(#, 0, 2)", Edges.OUTSIDE, "1001", "-1");
        E.refuses("log(0, #)", Edges.OUTSIDE, "6", "-1");
        E.refuses("told(#)", Edges.OUTSIDE, "10", "-1");
    }

    private static void questionsChangeNothing() {
        E.sentence("Calls that only ask change nothing.");
        E.ahead(BUSY);
        // 230 SHARES, 4 men for 2 minutes at 7: 56 FOUL; 280 can be.
        int[] air = {174, 56, 230, 56, 0, 164, 36, 24, 6, 280, 1, 0, 2};
        for (int i = 0; i < air.length; i++) E.keeps("air(" + i + ")", air[i]);
        // 450 of 730 go, 34 of them FOUL: 22 of 280 are left.
        E.keeps("fewest(500)", 1);
        E.keeps("man(0, 3)", 4);
        E.keeps("ofThing(1, 4)", 2);
        E.keeps("best(-1)", 8600);
        E.keeps("best(0)", 1);
        E.keeps("tideOf(1)", 0);
        E.keeps("heard(2, 3)", 1);
        E.keeps("heard(6, 1)", 4);
        E.keeps("tight()", 5);
        E.keeps("free(4)", 16);
        E.keeps("log(0, 2)", 11);
        E.keeps("told(0)", 2);
    }

    private static void cut() {
        E.sentence("Quotients are cut.");
        E.due("room(101); depth(9); air(9)", 191);
        E.due("room(101); depth(9); air(5)", 53);
        E.due("room(199); breath(1); go(0, true); minutes(1); tip(); air(1)", 1);
        E.due("room(199); breath(1); go(0, true); minutes(1); air(7)", 0);
        E.due("room(199); breath(20); go(0, true); air(8)", 9);
        E.due("room(199); tip()", 99);
    }

    private static void use() {
        E.sentence("An object is used for at most 512 calls after it has been made");
        E.due("511 * minutes(200); told(0)", 102200);
        E.due("256 * tip(); 255 * stay(9); air(0)", 1);
        E.due("511 * barrel(0); barrel(1)", 1);
        E.due("505 * room(99); " + ALL_IN + "; air(8)", 55);
        E.due("509 * best(-1); thing(24, 1, 1, 1); tide(1); best(-1)", 1);
        E.due("127 * hear(1, 1); 127 * tell(); 127 * hear(6, 6); 129 * told(8); sign(7, 6, 6); tell()", 7);
        E.due("511 * entry(1, 2, 1); log(2, 0)", 1);
        E.due("511 * thing(24, 1, 1, 1); told(3)", 12);
        E.due("511 * tide(1); told(5)", 5);
    }

    /** No count of the document is too great for 512 calls of the most that a call may be. */
    private static void greatestCounts() {
        E.sentence("how often a MAN LACKED, for as long as the object is used");
        String out = "room(100); breath(30); stay(1); " + ALL_IN + "; out(0, 0, 24); out(1, 0, 24); out(2, 1, 24);"
            + "out(3, 1, 24); out(4, 2, 24); out(5, 2, 24)";
        // 15 calls; 496 more and the question. The first minute has breath for three men and a part for the fourth.
        E.ahead(out + "; 496 * minutes(200)");
        E.due("air(11)", 6 * 99200 - 3);
        E.due("air(12)", 6 * 99200);
        E.due("man(0, 3)", 198400);
        E.due("told(0)", 99200);
        E.due("air(3)", 100);
        E.ahead("");
        E.due(out + "; 496 * minutes(200); minutes(200)", 2400);
        E.ahead("room(5000); go(0, true); depth(90); breath(30); 40 * barrel(500); 5 * minutes(200)");
        E.due("air(3)", 25000);
        E.due("tip()", 12500);
        E.due("depth(0); air(4)", 20000);
        E.due("fewest(1)", Edges.NONE);
    }

    /** Two objects, called by turns, know nothing of one another. */
    private static void objectsApart() {
        E.sentence("BellBook(): A new object, however many others there are");
        Script busy = new Script();
        busy.run(BUSY);
        E.row("air(#)", 1000, 0, 1000, 0, 0, 1000, 0, 0, 100000, 1000, 0, 0, 0);
        E.row("told(#)", 0, 24, 0, 0, 0, 0, 0, 0, 0, 0);
        Script one = new Script();
        Script other = new Script();
        one.run("thing(24, 1, 1, 1); tide(1); sign(0, 1, 1); entry(1, 0, 2); hear(1, 1); tip(); best(0)");
        other.run("best(0)");
        E.same("told(3) of the one", one.run("told(3)"), 1);
        E.same("told(3) of the other", other.run("told(3)"), 0);
        E.same("best(0) of the one", one.run("best(0)"), 0);
        E.same("best(0) of the other", other.run("best(0)"), Edges.NONE);
        E.same("log(0, 4) of the one", one.run("log(0, 4)"), 1);
        E.same("log(0, 4) of the other", other.run("log(0, 4)"), 0);
        E.same("log(0, 4) of the one again", one.run("log(0, 4)"), 1);
        E.same("tell() of the other", other.run("tell()"), Edges.NONE);
        E.same("tell() of the one", one.run("tell()"), 0);
        E.same("air(0) of the other", other.run("air(0)"), 1000);
        E.same("air(0) of the one", one.run("air(0)"), 500);
    }
}
