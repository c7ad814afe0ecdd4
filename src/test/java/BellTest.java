/** Promises 1 to 10: a new object and the bell. */
public final class BellTest {
    private static final Check CHECK = new Check();

    private static void due(String call, long got, long want) {
        CHECK.due(call, got, want);
    }

    /** fresh, foul, sent, breathed, spilled */
    private static void dueAir(String when, BellBook x, int... want) {
        for (int i = 0; i < want.length; i++) due(when + ": air(" + i + ")", x.air(i), want[i]);
    }

    public static void main(String[] args) {
        newObject();
        room();
        depth();
        tip();
        barrel();
        breath();
        limit();
        minutes();
        lacksOfBothKinds();
        air();
        last();
        foulness();
        fewest();
        CHECK.finish();
    }

    private static void newObject() {
        BellBook x = new BellBook();
        int[] air = {1000, 0, 1000, 0, 0, 1000, 0, 0, 100000, 1000, 0, 0, 0};
        for (int i = 0; i < air.length; i++) due("new: air(" + i + ")", x.air(i), air[i]);
        int[] told = {0, 24, 0, 0, 0, 0, 0, 0, 0, 0};
        for (int i = 0; i < told.length; i++) due("new: told(" + i + ")", x.told(i), told[i]);
        for (int m = 0; m < 6; m++) {
            int[] man = {0, -6, -6, 0, -6};
            for (int i = 0; i < man.length; i++) due("new: man(" + m + ", " + i + ")", x.man(m, i), man[i]);
            for (int i = 0; i < 6; i++) due("new: log(" + m + ", " + i + ")", x.log(m, i), 0);
        }
        due("new: breath", x.breath(1), 3);
        due("new: limit", x.limit(1), 40);
        due("new: stay", x.stay(1), 10);
        for (int h = 0; h < 3; h++) due("new: hose", x.hose(h, 1), 4);
        due("new: hang", x.hang(0), 24);
        due("new: best(-1)", x.best(-1), 0);
        due("new: best(-2)", x.best(-2), 0);
        due("new: best(-3)", x.best(-3), 0);
        due("new: best(0)", x.best(0), -6);
        due("new: tideOf(0)", x.tideOf(0), -6);
        due("new: tell", x.tell(), -6);
        due("new: tight", x.tight(), -6);
        due("new: ofThing(0, 0)", x.ofThing(0, 0), -1);
        due("new: heard(1, 1)", x.heard(1, 1), -6);
        due("new: room", x.room(5000), 1000);
    }

    private static void room() {
        BellBook x = new BellBook();
        due("room(100)", x.room(100), 1000);
        due("room(5000)", x.room(5000), 100);
        dueAir("room(5000)", x, 5000, 0, 5000, 0, 0, 5000, 0, 0, 100000, 5000, 0, 0, 0);
        due("room(99)", x.room(99), -2);
        due("room(5001)", x.room(5001), -2);
        due("room(MIN)", x.room(Integer.MIN_VALUE), -2);
        due("room(MAX)", x.room(Integer.MAX_VALUE), -2);
        x.go(3, true);
        due("a man IN: room(200)", x.room(200), -3);
        due("a man IN: room(99)", x.room(99), -2);
        x.out(3, 0, 24);
        due("a man OUT: room(200)", x.room(200), -3);
        x.stay(1);
        x.breath(30);
        x.limit(7);
        x.minutes(200);
        x.barrel(9);
        x.tip();
        due("lacks beyond stay ahead of room", x.air(12), 199);
        x.go(3, true);
        x.go(3, false);
        x.depth(1);
        due("depth 1: room(200)", x.room(200), -3);
        x.depth(0);
        due("room(200)", x.room(200), 5000);
        dueAir("counts begin anew", x, 200, 0, 200, 0, 0, 200, 0, 0, 100000, 200, 0, 0, 0);
        due("breath stays", x.breath(30), 30);
        due("limit stays", x.limit(7), 7);
        due("minutes stay", x.told(0), 200);
        for (int i = 0; i < 40; i++) due("barrels anew", x.barrel(1), 1);
        due("41st barrel", x.barrel(1), -4);
        due("room with 40 barrels", x.room(100), 200);
        due("barrel after room", x.barrel(1), 1);
    }

    private static void depth() {
        BellBook x = new BellBook();
        due("depth(90)", x.depth(90), 0);
        due("told(2)", x.told(2), 90);
        due("air(9)", x.air(9), 10000);
        due("air(5)", x.air(5), 100);
        due("air(6)", x.air(6), 900);
        due("depth(91)", x.depth(91), -2);
        due("depth(-1)", x.depth(-1), -2);
        due("depth(MIN)", x.depth(Integer.MIN_VALUE), -2);
        for (int i = 0; i < 10; i++) due("barrel(500)", x.barrel(500), 0);
        due("depth(13)", x.depth(13), 3700);
        dueAir("depth(13)", x, 2300, 0, 6000, 0, 3700);
        due("depth(13) again", x.depth(13), 0);
        x.depth(0);
        x.go(0, true);
        x.depth(1);
        x.out(0, 1, 24);
        due("a man OUT: depth(1)", x.depth(1), -3);
        due("a man OUT: depth(91)", x.depth(91), -2);
        x.go(0, true);
        due("a man IN: depth(0)", x.depth(0), 0);

        BellBook y = new BellBook();
        y.room(105);
        y.depth(5);
        due("most is cut", y.air(9), 157);
        y.barrel(500);
        due("shares at depth 5", y.air(0), 157);
        due("dry is cut", y.air(5), 104);
        due("water", y.air(6), 1);
    }

    private static void tip() {
        BellBook x = new BellBook();
        x.room(101);
        x.breath(10);
        x.go(0, true);
        x.minutes(3);
        due("tip()", x.tip(), 50);
        dueAir("tip: foul cut, the rest fresh", x, 71 - 36, 30 - 14, 101, 30, 50);
        for (int want : new int[] {25, 13, 6, 3, 2, 1, 0, 0}) due("tip()", x.tip(), want);
        due("one share is left", x.air(0) + x.air(1), 1);
        due("spilled", x.air(4), 100);
    }

    private static void barrel() {
        BellBook x = new BellBook();
        due("barrel(0)", x.barrel(0), -2);
        due("barrel(501)", x.barrel(501), -2);
        due("barrel(MIN)", x.barrel(Integer.MIN_VALUE), -2);
        due("barrel(1)", x.barrel(1), 1);
        due("barrel(500)", x.barrel(500), 500);
        dueAir("barrel", x, 1000, 0, 1501, 0, 501);
        x.tip();
        due("barrel(499)", x.barrel(499), 0);
        for (int i = 3; i < 40; i++) due("barrel(500)", x.barrel(500), i == 3 ? 499 : 500);
        due("air(10)", x.air(10), 40);
        due("the 41st: barrel(1)", x.barrel(1), -4);
        due("the 41st: barrel(0)", x.barrel(0), -2);

        BellBook y = new BellBook();
        y.room(100);
        y.breath(30);
        y.go(0, true);
        y.minutes(1);
        due("barrel(50) into 70 and 30", y.barrel(50), 50);
        dueAir("what spills is shared with the barrel in it", y, 80, 20, 150, 30, 50);
    }

    private static void breath() {
        BellBook x = new BellBook();
        due("breath(30)", x.breath(30), 3);
        due("breath(1)", x.breath(1), 30);
        due("breath(0)", x.breath(0), -2);
        due("breath(31)", x.breath(31), -2);
        due("breath(MIN)", x.breath(Integer.MIN_VALUE), -2);
        due("breath(2)", x.breath(2), 1);
    }

    private static void limit() {
        BellBook x = new BellBook();
        due("limit(100)", x.limit(100), 40);
        due("limit(1)", x.limit(1), 100);
        due("limit(0)", x.limit(0), -2);
        due("limit(101)", x.limit(101), -2);
        due("limit(MAX)", x.limit(Integer.MAX_VALUE), -2);
        due("limit(2)", x.limit(2), 1);
    }

    private static void minutes() {
        BellBook x = new BellBook();
        due("minutes(0)", x.minutes(0), -2);
        due("minutes(201)", x.minutes(201), -2);
        due("minutes(-1)", x.minutes(-1), -2);
        due("minutes(200)", x.minutes(200), 0);
        due("told(0)", x.told(0), 200);
        dueAir("nobody breathes", x, 1000, 0, 1000, 0, 0);
        x.room(100);
        x.breath(9);
        x.go(1, true);
        x.go(4, true);
        due("minutes(5)", x.minutes(5), 0);
        dueAir("two men, five minutes", x, 10, 90, 100, 90, 0);
        due("minutes(1): the second has 1 of 9", x.minutes(1), 1);
        dueAir("all is foul", x, 0, 100, 100, 100, 0);
        due("minutes(1)", x.minutes(1), 2);
        due("air(11)", x.air(11), 3);
        due("air(12)", x.air(12), 0);
        due("told(0)", x.told(0), 207);

        BellBook y = new BellBook();
        y.room(100);
        y.breath(20);
        y.go(0, true);
        due("just enough is no lack", y.minutes(5), 0);
        due("then he lacks", y.minutes(1), 1);
    }

    private static void lacksOfBothKinds() {
        BellBook x = new BellBook();
        x.room(100);
        x.breath(30);
        x.stay(2);
        x.go(0, true);
        x.go(1, true);
        x.out(0, 0, 24);
        due("in the second minute the fourth breath lacks", x.minutes(2), 1);
        due("both kinds count", x.minutes(1), 3);
        due("air(11)", x.air(11), 3);
        due("air(12)", x.air(12), 1);
        x.out(1, 0, 24);
        due("two on a hose: 5 and 2", x.minutes(1), 3);
        due("man(0, 3)", x.man(0, 3), 5);
        due("man(1, 3)", x.man(1, 3), 2);
        due("each minute beyond stay is one lack of a man", x.minutes(1), 4);
        due("man(0, 3)", x.man(0, 3), 7);
        due("air(12)", x.air(12), 4);
        x.stay(60);
        due("a longer stay", x.minutes(1), 2);
        due("air(12)", x.air(12), 4);
    }

    private static void air() {
        BellBook x = new BellBook();
        due("air(-1)", x.air(-1), -2);
        due("air(13)", x.air(13), -2);
        due("air(MAX)", x.air(Integer.MAX_VALUE), -2);
        x.room(200);
        x.go(0, true);
        x.breath(7);
        x.depth(7);
        x.minutes(3);
        x.barrel(100);
        x.tip();
        x.barrel(30);
        // 179 and 21; 279 and 21 of 340; half of 300: 10 foul ones and 140; then 30 more.
        int[] want = {169, 11, 330, 21, 150, 105, 95, 6, 24, 340, 2, 0, 0};
        for (int i = 0; i < want.length; i++) due("air(" + i + ")", x.air(i), want[i]);
    }

    private static void last() {
        BellBook x = new BellBook();
        x.room(100);
        x.breath(7);
        for (int man = 0; man < 6; man++) {
            x.go(man, true);
            due("air(8)", x.air(8), 100 / (7 * (man + 1)));
        }
        x.stay(1);
        x.out(0, 0, 24);
        x.out(1, 0, 24);
        due("men OUT breathe too", x.air(8), 2);
        x.minutes(2);
        due("16 for 42", x.air(8), 0);
        due("air(0)", x.air(0), 16);

        BellBook y = new BellBook();
        y.breath(1);
        y.go(5, true);
        due("one share in a minute", y.air(8), 1000);
        y.minutes(200);
        due("200 fewer", y.air(8), 800);
    }

    private static void foulness() {
        BellBook x = new BellBook();
        x.room(100);
        x.breath(30);
        x.go(0, true);
        x.minutes(4);
        for (int i = 0; i < 10; i++) x.tip();
        due("one share", x.air(1), 1);
        due("and that is foul", x.air(7), 100);
        due("another makes it 50", x.barrel(1) + x.air(7), 50);
        due("another makes it 33", x.barrel(1) + x.air(7), 33);
    }

    private static void fewest() {
        BellBook x = new BellBook();
        due("fewest(500) of fresh air", x.fewest(500), 0);
        x.room(100);
        x.breath(30);
        x.go(0, true);
        x.minutes(1);
        due("30 of 100 is below 40", x.fewest(1), 0);
        x.limit(30);
        due("at the limit", x.fewest(1), 0);
        x.minutes(3);
        due("all foul", x.air(7), 100);
        x.depth(90);
        x.limit(40);
        due("deep: 4 of 40 spill nothing", x.fewest(40), 4);
        due("deep: 36 barrels of 4 are 100 of 244, cut 40", x.fewest(4), 36);
        due("deep: 40 barrels of 3", x.fewest(3), -6);
        x.limit(45);
        due("just 40 barrels", x.fewest(3), 40);
        x.barrel(1);
        x.limit(19);
        due("those let in ahead do not count", x.fewest(10), 40);
        for (int kind = 0; kind < 24; kind++) {
            for (int b = 1; b <= 500; b += 1 + b / 9) {
                for (int limit = 1; limit <= 100; limit += 11) dueByBarrels(kind, b, limit);
            }
        }
    }

    private static BellBook foulBell(int kind) {
        BellBook x = new BellBook();
        x.room(100 + 13 * kind);
        x.breath(1 + kind);
        x.go(0, true);
        x.go(1, true);
        x.depth(kind % 4 * 8);
        x.minutes(1 + kind * 7 % 40);
        if (kind % 3 == 0) x.tip();
        return x;
    }

    /** The same, by letting the barrels in. */
    private static void dueByBarrels(int kind, int b, int limit) {
        BellBook x = foulBell(kind);
        int n = 0;
        while (n < 40 && x.air(7) > limit) {
            x.barrel(b);
            n++;
        }
        int want = x.air(7) > limit ? -6 : n;
        BellBook y = foulBell(kind);
        y.limit(limit);
        due("kind " + kind + ", limit " + limit + ": fewest(" + b + ")", y.fewest(b), want);
    }
}
