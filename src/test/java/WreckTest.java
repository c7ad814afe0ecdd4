/** Promises 17 to 25: the wreck. */
public final class WreckTest {
    private static final Check CHECK = new Check();

    private static void due(String call, long got, long want) {
        CHECK.due(call, got, want);
    }

    /** hope, minutes, then thing and tide by turns */
    private static void duePlan(String when, BellBook x, int hope, int minutes, int... thingsAndTides) {
        int n = thingsAndTides.length / 2;
        due(when + ": best(-1)", x.best(-1), hope);
        due(when + ": best(-2)", x.best(-2), minutes);
        due(when + ": best(-3)", x.best(-3), n);
        for (int i = 0; i < n; i++) {
            due(when + ": best(" + i + ")", x.best(i), thingsAndTides[2 * i]);
            due(when + ": tideOf(" + i + ")", x.tideOf(i), thingsAndTides[2 * i + 1]);
        }
        due(when + ": best(" + n + ")", x.best(n), -6);
        due(when + ": tideOf(" + n + ")", x.tideOf(n), -6);
    }

    public static void main(String[] args) {
        thing();
        under();
        tangle();
        work();
        workers();
        ofThing();
        tide();
        calm();
        best();
        ties();
        order();
        orderOfTides();
        planFollowsChanges();
        tideOf();
        CHECK.finish();
    }

    private static void thing() {
        BellBook x = new BellBook();
        due("square 49", x.thing(49, 0, 1, 0), -1);
        due("square -1, worth -1", x.thing(-1, -1, 1, 0), -1);
        due("worth -1", x.thing(0, -1, 1, 0), -2);
        due("worth 1001", x.thing(0, 1001, 1, 0), -2);
        due("work 0", x.thing(0, 0, 0, 0), -2);
        due("work 201", x.thing(0, 0, 201, 0), -2);
        due("odds -1", x.thing(0, 0, 1, -1), -2);
        due("odds 101", x.thing(0, 0, 1, 101), -2);
        due("least", x.thing(0, 0, 1, 0), 0);
        due("most", x.thing(48, 1000, 200, 100), 1);
        for (int i = 2; i < 12; i++) due("thing", x.thing(i, 1, 1, 1), i);
        due("the 13th", x.thing(0, 0, 1, 0), -4);
        due("the 13th, odds 101", x.thing(0, 0, 1, 101), -2);
        due("the 13th, square 49", x.thing(49, 0, 1, 101), -1);
        due("told(3)", x.told(3), 12);
    }

    private static void under() {
        BellBook x = new BellBook();
        for (int i = 0; i < 12; i++) x.thing(0, 1, 1, 1);
        due("under(0, 1, true)", x.under(0, 1, true), 0);
        due("under(0, 1, true) again", x.under(0, 1, true), 1);
        due("under(0, 1, false)", x.under(0, 1, false), 1);
        due("under(0, 1, false) again", x.under(0, 1, false), 0);
        due("themselves", x.under(3, 3, true), -1);
        due("themselves, not", x.under(3, 3, false), -1);
        due("no such", x.under(12, 0, true), -1);
        due("no such other", x.under(0, 12, true), -1);
        due("-1", x.under(-1, 0, true), -1);
        due("other -1", x.under(0, -1, false), -1);
        // A chain against the order of numbers and one along it: the ring is found through all of it.
        for (int i = 0; i < 11; i++) due("chain", x.under((i * 5) % 12, (i * 5 + 5) % 12, true), 0);
        due("the ring of 12", x.under(55 % 12, 0, true), -5);
        for (int i = 1; i < 12; i++) due("a ring", x.under((i * 5) % 12, 0, true), -5);
        due("not UNDER is no ring", x.under(55 % 12, 0, false), 0);
        due("along the chain", x.under(0, 55 % 12, true), 0);
        x.under(25 % 12, 30 % 12, false);
        due("the first piece", x.under(55 % 12, 0, true), -5);
        x.under(0, 55 % 12, false);
        due("the chain is cut", x.under(55 % 12, 0, true), 0);
    }

    private static void tangle() {
        BellBook x = new BellBook();
        due("no such", x.tangle(0, true), -1);
        x.thing(24, 5, 1, 5);
        due("tangle(0, true)", x.tangle(0, true), 0);
        due("tangle(0, true) again", x.tangle(0, true), 1);
        due("-1", x.tangle(-1, true), -1);
        x.go(0, true);
        x.out(0, 0, 24);
        x.work(0, 0);
        x.minutes(1);
        due("nobody works at what is TANGLED", x.ofThing(0, 4), 0);
        due("tangle(0, false)", x.tangle(0, false), 1);
        due("tangle(0, false) again", x.tangle(0, false), 0);
        x.minutes(1);
        due("RAISED", x.ofThing(0, 5), 1);
        due("tangle what is RAISED", x.tangle(0, true), 0);
        due("it stays RAISED", x.told(4), 1);
    }

    private static void work() {
        BellBook x = new BellBook();
        x.thing(24, 5, 10, 5);
        x.thing(24, 5, 10, 5);
        due("no such man", x.work(6, 0), -1);
        due("man -1", x.work(-1, -1), -1);
        due("no such thing", x.work(0, 2), -1);
        due("thing -2", x.work(0, -2), -1);
        due("thing NONE", x.work(0, -6), -1);
        due("work(0, -1)", x.work(0, -1), -6);
        due("work(0, 0)", x.work(0, 0), -6);
        due("work(0, 1)", x.work(0, 1), 0);
        due("work(0, -1)", x.work(0, -1), 1);
        due("work(0, 1)", x.work(0, 1), -6);
        x.minutes(1);
        x.go(0, true);
        x.minutes(1);
        due("only OUT he works", x.ofThing(1, 4), 0);
        x.out(0, 0, 25);
        x.minutes(1);
        due("only at its square", x.ofThing(1, 4), 0);
        x.out(0, 0, 24);
        x.minutes(1);
        due("there he works", x.ofThing(1, 4), 1);
        due("at what he is told", x.ofThing(0, 4), 0);
    }

    private static void workers() {
        BellBook x = new BellBook();
        x.thing(24, 7, 3, 50);
        x.thing(24, 11, 2, 50);
        x.under(1, 0, true);
        for (int man = 0; man < 4; man++) {
            x.go(man, true);
            x.out(man, man / 2, 24);
        }
        x.work(0, 1);
        x.work(1, 0);
        x.work(2, 0);
        x.work(3, 1);
        x.minutes(1);
        due("two work at it", x.ofThing(0, 4), 2);
        due("not FREE", x.ofThing(1, 4), 0);
        x.minutes(1);
        due("RAISED by the second man", x.told(4), 1);
        due("no minute too many", x.ofThing(0, 4), 3);
        due("told(9)", x.told(9), 7);
        due("FREE for the men behind him", x.ofThing(1, 4), 1);
        x.minutes(1);
        due("told(4)", x.told(4), 3);
        due("told(9)", x.told(9), 18);
        due("no minute too many", x.ofThing(1, 4), 2);
    }

    private static void ofThing() {
        BellBook x = new BellBook();
        x.thing(24, 900, 2, 33);
        x.thing(25, 800, 150, 44);
        x.thing(26, 700, 160, 55);
        x.under(2, 0, true);
        x.under(2, 1, true);
        x.tangle(2, true);
        int[] want = {26, 700, 160, 55, 0, 0, 0, 1, 3};
        for (int i = 0; i < 9; i++) due("ofThing(2, " + i + ")", x.ofThing(2, i), want[i]);
        due("ofThing(2, 9)", x.ofThing(2, 9), -2);
        due("ofThing(2, -1)", x.ofThing(2, -1), -2);
        due("ofThing(3, 9)", x.ofThing(3, 9), -1);
        due("ofThing(-1, 0)", x.ofThing(-1, 0), -1);
        x.go(0, true);
        x.out(0, 0, 24);
        x.work(0, 0);
        x.minutes(2);
        int[] raised = {24, 900, 2, 33, 2, 1, 1, 0, 0};
        for (int i = 0; i < 9; i++) due("RAISED: ofThing(0, " + i + ")", x.ofThing(0, i), raised[i]);
        due("one of two is RAISED", x.ofThing(2, 6), 0);
        due("it still lies UNDER both", x.ofThing(2, 8), 3);
        x.under(2, 1, false);
        due("FREE, though TANGLED", x.ofThing(2, 6), 1);
        due("ofThing(2, 8)", x.ofThing(2, 8), 1);
    }

    private static void tide() {
        BellBook x = new BellBook();
        due("tide(0)", x.tide(0), -2);
        due("tide(301)", x.tide(301), -2);
        due("tide(MIN)", x.tide(Integer.MIN_VALUE), -2);
        for (int i = 1; i <= 5; i++) due("tide", x.tide(i == 1 ? 1 : 300), i);
        due("the sixth", x.tide(1), -4);
        due("the sixth, 301", x.tide(301), -2);
        due("told(5)", x.told(5), 5);
    }

    private static void calm() {
        BellBook x = new BellBook();
        due("calm() of none", x.calm(), 0);
        x.tide(5);
        x.tide(6);
        x.thing(0, 1, 5, 1);
        duePlan("two tides", x, 1, 5, 0, 0);
        due("calm()", x.calm(), 2);
        duePlan("no tide", x, 0, 0);
        due("told(5)", x.told(5), 0);
        due("tide(4)", x.tide(4), 1);
        duePlan("too short", x, 0, 0);
        due("calm()", x.calm(), 1);
        for (int i = 1; i <= 5; i++) due("five again", x.tide(5), i);
    }

    private static void best() {
        BellBook x = new BellBook();
        due("best(-4)", x.best(-4), -2);
        due("best(MIN)", x.best(Integer.MIN_VALUE), -2);
        due("best(MAX)", x.best(Integer.MAX_VALUE), -6);
        x.thing(0, 1000, 200, 100);
        duePlan("no tides", x, 0, 0);
        x.tide(199);
        duePlan("a minute too short", x, 0, 0);
        x.tide(200);
        duePlan("just long enough", x, 100000, 200, 0, 1);
        x.thing(0, 999, 199, 100);
        duePlan("each in its tide", x, 199900, 399, 1, 0, 0, 1);
        x.under(1, 0, true);
        duePlan("1 lies UNDER 0", x, 100000, 200, 0, 1);
        x.under(1, 0, false);
        x.under(0, 1, true);
        duePlan("0 lies UNDER 1", x, 199900, 399, 1, 0, 0, 1);
        x.tangle(1, true);
        duePlan("what lies UNDER what is TANGLED", x, 0, 0);
        x.under(0, 1, false);
        duePlan("not UNDER it any more", x, 100000, 200, 0, 1);
    }

    private static void ties() {
        BellBook x = new BellBook();
        x.tide(10);
        x.thing(0, 0, 1, 100);
        x.thing(0, 100, 1, 0);
        duePlan("no hope: the plan of none has the fewest minutes", x, 0, 0);
        x.thing(0, 20, 10, 50);
        x.thing(0, 10, 9, 100);
        duePlan("the same hope in fewer minutes", x, 1000, 9, 3, 0);
        x.thing(0, 50, 9, 20);
        duePlan("the same hope and minutes: the least bits", x, 1000, 9, 3, 0);
        x.thing(0, 5, 5, 100);
        x.thing(0, 5, 4, 100);
        duePlan("two for one: bits 8 are below bits 96", x, 1000, 9, 3, 0);
        x.tangle(3, true);
        duePlan("bits 16 are below bits 96", x, 1000, 9, 4, 0);
        x.tangle(4, true);
        duePlan("bits 96, and 9 minutes, not 10", x, 1000, 9, 5, 0, 6, 0);
    }

    private static void order() {
        BellBook x = new BellBook();
        x.tide(10);
        x.tide(7);
        x.thing(0, 1, 4, 1);
        x.thing(0, 1, 3, 1);
        x.thing(0, 1, 6, 1);
        x.thing(0, 1, 4, 1);
        // 4 + 6 and 3 + 4 alone fill the tides: behind 0 only 2 can come.
        duePlan("all fits in one way", x, 4, 17, 0, 0, 2, 0, 1, 1, 3, 1);
        x.calm();
        x.tide(11);
        x.tide(7);
        duePlan("a minute more: 0, 1, 3 in the first leave 6 for the second", x, 4, 17, 0, 0, 1, 0, 3, 0, 2, 1);
        x.under(3, 2, true);
        duePlan("3 lies UNDER 2", x, 4, 17, 0, 0, 2, 0, 1, 1, 3, 1);
        x.under(0, 3, true);
        // 2 and 3 fill 10 of 11, then 0 and 1 just the second tide; without 0 ahead of 1 the same.
        duePlan("0 lies UNDER 3, 3 UNDER 2", x, 4, 17, 2, 0, 3, 0, 0, 1, 1, 1);
    }

    private static void orderOfTides() {
        BellBook x = new BellBook();
        x.tide(5);
        x.tide(9);
        x.tide(5);
        x.thing(0, 1, 7, 1);
        x.thing(0, 1, 5, 1);
        x.thing(0, 1, 5, 1);
        duePlan("the long one in the middle", x, 3, 17, 1, 0, 0, 1, 2, 2);
        x.under(1, 0, true);
        duePlan("room left in an earlier tide is not gone back to", x, 3, 17, 2, 0, 0, 1, 1, 2);
        x.under(2, 0, true);
        duePlan("only one can be behind it", x, 2, 12, 0, 1, 1, 2);
    }

    private static void planFollowsChanges() {
        BellBook x = new BellBook();
        x.tide(6);
        x.thing(24, 10, 8, 10);
        duePlan("8 left of 8", x, 0, 0);
        x.go(0, true);
        x.out(0, 0, 24);
        x.work(0, 0);
        x.minutes(1);
        duePlan("7 left", x, 0, 0);
        x.minutes(1);
        duePlan("6 left", x, 100, 6, 0, 0);
        x.minutes(3);
        duePlan("3 left", x, 100, 3, 0, 0);
        x.thing(24, 10, 3, 10);
        x.under(1, 0, true);
        duePlan("1 UNDER 0", x, 200, 6, 0, 0, 1, 0);
        x.minutes(3);
        duePlan("0 is RAISED", x, 100, 3, 1, 0);
        x.tangle(0, true);
        duePlan("RAISED ones bind nobody, TANGLED or not", x, 100, 3, 1, 0);
        x.tangle(1, true);
        duePlan("1 is TANGLED", x, 0, 0);
        x.tangle(1, false);
        x.thing(24, 1, 3, 1);
        duePlan("a new thing", x, 101, 6, 1, 0, 2, 0);
        x.calm();
        x.tide(5);
        duePlan("a shorter tide", x, 100, 3, 1, 0);
        x.tide(5);
        duePlan("another tide", x, 101, 6, 1, 0, 2, 1);
    }

    private static void tideOf() {
        BellBook x = new BellBook();
        x.tide(1);
        x.thing(0, 1, 1, 1);
        due("tideOf(0)", x.tideOf(0), 0);
        for (int i : new int[] {1, 2, 12, Integer.MAX_VALUE, -1, -2, -3, -4, Integer.MIN_VALUE}) {
            due("tideOf(" + i + ")", x.tideOf(i), -6);
        }
        BellBook y = new BellBook();
        for (int i = 0; i < 5; i++) y.tide(300 - i);
        for (int i = 0; i < 12; i++) y.thing(0, 1, 101, 1);
        for (int i = 0; i < 10; i++) due("two to a tide", y.tideOf(i), i / 2);
        due("ten in all", y.best(-3), 10);
        due("the least ten", y.best(9), 9);
    }
}
