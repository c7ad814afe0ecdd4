/** The edges of "1 the bell" and of promises 1 to 10, a sentence of the document after the other. */
public final class BellEdgesTest {
    private static final Edges E = new Edges();
    private static final String[] EXTREMES = {"MIN", "MAX"};
    // 100 foul shares and no fresh one; man 0 is IN.
    private static final String ALL_FOUL = "room(100); breath(25); go(0, true); minutes(4)";

    public static void main(String[] args) {
        newObject();
        ranges();
        mostShares();
        whatSpills();
        dryAndWater();
        tip();
        barrel();
        breathing();
        lacks();
        sums();
        last();
        foulness();
        fewest();
        fewestIsFortyOrNone();
        room();
        roomAnew();
        roomState();
        depth();
        minutes();
        air();
        E.finish();
    }

    private static void newObject() {
        E.sentence("BellBook(): As told at first; no THINGS, TIDES, SIGNS, ENTRIES; MINUTE 0.");
        E.row("air(#)", 1000, 0, 1000, 0, 0, 1000, 0, 0, 100000, 1000, 0, 0, 0);
        E.row("told(#)", 0, 24, 0, 0, 0, 0, 0, 0, 0, 0);
        for (int man = 0; man < 6; man++) {
            E.row("man(" + man + ", #)", 0, Edges.NONE, Edges.NONE, 0, Edges.NONE);
            E.row("log(" + man + ", #)", 0, 0, 0, 0, 0, 0);
        }
        E.row("hose(#, 1)", 4, 4, 4);
        E.due("breath(1)", 3);
        E.due("limit(1)", 40);
        E.due("stay(1)", 10);
        E.due("room(100)", 1000);
        E.due("hang(0)", 24);
        E.due("thing(0, 0, 1, 0)", 0);
        E.due("tide(1)", 1);
        E.due("hear(0, 0)", 1);
        E.due("entry(0, 0, 0)", 0);
        E.due("calm()", 0);
        E.due("tell()", Edges.NONE);
        E.due("minutes(200)", 0);
        E.keeps("ofThing(0, 0)", Edges.UNKNOWN);
        E.keeps("under(0, 1, true)", Edges.UNKNOWN);
        E.keeps("tangle(0, true)", Edges.UNKNOWN);
        E.keeps("work(0, 0)", Edges.UNKNOWN);
        E.keeps("work(0, -1)", Edges.NONE);
        E.keeps("best(-1)", 0);
        E.keeps("best(-2)", 0);
        E.keeps("best(-3)", 0);
        E.keeps("best(0)", Edges.NONE);
        E.keeps("tideOf(0)", Edges.NONE);
        E.keeps("tight()", Edges.NONE);
        E.keeps("heard(1, 1)", Edges.NONE);
        E.keeps("free(10)", 11);
        E.keeps("fewest(1)", 0);
    }

    private static void ranges() {
        E.sentence("THE BELL has ROOM (100 to 5000; 1000 at first)");
        E.due("room(100)", 1000);
        E.due("room(100); room(101)", 100);
        E.due("room(5000); room(100)", 5000);
        E.refuses("room(#)", Edges.OUTSIDE, "99", "5001", "0", "-100");
        E.refuses("room(#)", Edges.OUTSIDE, EXTREMES);

        E.sentence("and a DEPTH (0 to 90; 0)");
        E.due("told(2)", 0);
        E.due("depth(0); told(2)", 0);
        E.due("depth(1); told(2)", 1);
        E.due("depth(90); told(2)", 90);
        E.due("depth(90); depth(0); told(2)", 0);
        E.ahead("depth(7)");
        E.refuses("depth(#)", Edges.OUTSIDE, "-1", "91");
        E.refuses("depth(#)", Edges.OUTSIDE, EXTREMES);

        E.sentence("BREATH: SHARES a MAN breathes in a MINUTE (1 to 30; 3 at first).");
        E.due("breath(1)", 3);
        E.due("breath(1); breath(30)", 1);
        E.due("breath(30); breath(30)", 30);
        E.refuses("breath(#)", Edges.OUTSIDE, "0", "31", "-1");
        E.refuses("breath(#)", Edges.OUTSIDE, EXTREMES);
        E.due("breath(1); go(0, true); minutes(1); air(1)", 1);
        E.due("breath(30); go(0, true); minutes(1); air(1)", 30);
        E.due("go(0, true); minutes(1); air(1)", 3);

        E.sentence("LIMIT of that (1 to 100; 40 at first).");
        E.due("limit(1)", 40);
        E.due("limit(1); limit(100)", 1);
        E.due("limit(100); limit(100)", 100);
        E.refuses("limit(#)", Edges.OUTSIDE, "0", "101", "-1");
        E.refuses("limit(#)", Edges.OUTSIDE, EXTREMES);
    }

    private static void mostShares() {
        E.sentence("It holds ROOM times (10 and DEPTH) by 10 SHARES at most");
        E.due("room(100); air(9)", 100);
        E.due("room(5000); depth(90); air(9)", 50000);
        E.due("room(100); depth(90); air(9)", 1000);
        E.due("room(101); depth(1); air(9)", 111);
        E.due("room(109); depth(1); air(9)", 119);
        E.due("room(105); depth(9); air(9)", 199);

        E.sentence("what is above that SPILLS at once.");
        E.ahead("room(100); depth(10)");
        E.due("barrel(100)", 0);
        E.due("barrel(101)", 1);
        E.due("barrel(100); barrel(1)", 1);
        E.due("barrel(101); air(0)", 200);
        E.due("barrel(101); air(4)", 1);
        E.due("barrel(500)", 400);
        E.ahead("room(100); depth(10); barrel(50)");
        E.due("depth(5)", 0);
        E.due("depth(4)", 10);
        E.due("depth(4); air(0)", 140);
        E.due("depth(4); air(4)", 10);
        E.due("depth(0)", 50);
        E.due("depth(90)", 0);
        E.due("depth(90); depth(5)", 0);
        E.due("depth(4); depth(90); depth(4)", 0);
    }

    private static void whatSpills() {
        E.sentence("What SPILLS (n of all): FOUL ones first n times FOUL by all SHARES, the rest of n FRESH ones.");
        E.ahead("room(100); breath(1); go(0, true)");
        dueAir("tip()", 50, 0);
        dueAir("minutes(1); tip()", 49, 1);
        dueAir("minutes(2); tip()", 49, 1);
        dueAir("minutes(3); tip()", 48, 2);
        dueAir("minutes(99); tip()", 0, 50);
        dueAir("minutes(98); tip()", 1, 49);
        dueAir("minutes(100); tip()", 0, 50);
        dueAir("minutes(1); barrel(100)", 99, 1);
        dueAir("minutes(2); barrel(100)", 99, 1);
        dueAir("minutes(3); barrel(100)", 98, 2);
        dueAir("minutes(100); barrel(1)", 0, 100);
        dueAir("minutes(100); barrel(2)", 1, 99);
        dueAir("minutes(100); barrel(500)", 83, 17);
        E.ahead("room(100); breath(1); go(0, true); depth(10); barrel(100)");
        dueAir("minutes(1); depth(0)", 99, 1);
        dueAir("minutes(2); depth(0)", 99, 1);
        dueAir("minutes(3); depth(0)", 98, 2);
        dueAir("minutes(200); depth(0)", 0, 100);
        dueAir("minutes(200); depth(10)", 0, 200);
    }

    private static void dueAir(String calls, int fresh, int foul) {
        E.due(calls + "; air(0)", fresh);
        E.due(calls + "; air(1)", foul);
    }

    private static void dryAndWater() {
        E.sentence("THE DRY: SHARES times 10 by (10 and DEPTH)");
        E.due("room(100); air(5)", 100);
        E.due("room(100); depth(1); air(5)", 90);
        E.due("room(100); depth(89); air(5)", 10);
        E.due("room(100); depth(90); air(5)", 10);
        E.due("room(5000); depth(90); 40 * barrel(500); air(5)", 2500);
        E.due("room(101); depth(9); barrel(500); air(5)", 100);
        E.due("room(100); 7 * tip(); air(5)", 1);
        E.due("room(100); 7 * tip(); depth(1); air(5)", 0);
        E.ahead(ALL_FOUL);
        E.due("depth(90); air(5)", 10);

        E.sentence("THE WATER in it: ROOM less that.");
        E.due("room(100); air(6)", 0);
        E.due("room(100); depth(1); air(6)", 10);
        E.due("room(100); depth(90); air(6)", 90);
        E.due("room(101); depth(9); barrel(500); air(6)", 1);
        E.due("room(100); 7 * tip(); air(6)", 99);
        E.due("room(100); 7 * tip(); depth(1); air(6)", 100);

        E.sentence("At first it is full of FRESH ones.");
        E.due("air(0)", 1000);
        E.due("air(1)", 0);
        E.due("air(9)", 1000);
        E.due("barrel(1)", 1);
    }

    private static void tip() {
        E.sentence("A TIP: half of all SHARES SPILL.");
        E.ahead("room(101)");
        E.due("tip()", 50);
        E.due("tip(); air(0)", 51);
        E.due("tip(); air(4)", 50);
        E.ahead("room(100)");
        E.due("tip()", 50);
        E.due("6 * tip()", 2);
        E.due("7 * tip()", 1);
        E.due("8 * tip()", 0);
        E.due("200 * tip()", 0);
        E.due("200 * tip(); air(0)", 1);
        E.due("200 * tip(); air(4)", 99);
        E.due("6 * tip(); barrel(1); tip()", 1);
        E.due("6 * tip(); barrel(1); tip(); air(0)", 2);
        E.ahead("room(100); go(0, true); out(0, 0, 24)");
        E.due("tip()", 50);
        E.ahead("room(100); depth(90)");
        E.due("tip()", 50);
    }

    private static void barrel() {
        E.sentence("A BARREL: 1 to 500 SHARES, FRESH, let in");
        E.ahead("depth(10)");
        E.due("barrel(1); air(0)", 1001);
        E.due("barrel(500); air(0)", 1500);
        E.due("barrel(500); air(1)", 0);
        E.refuses("barrel(#)", Edges.OUTSIDE, "0", "501", "-1");
        E.refuses("barrel(#)", Edges.OUTSIDE, EXTREMES);

        E.sentence("40 at most in all.");
        E.due("39 * barrel(1); barrel(2)", 2);
        E.due("40 * barrel(500); air(10)", 40);
        E.due("39 * barrel(1); 5 * barrel(0); 5 * barrel(501); barrel(2)", 2);
        E.due("39 * barrel(1); 5 * barrel(0); air(10)", 39);

        E.sentence("barrel: FULL: 40 were.");
        E.ahead("40 * barrel(1)");
        E.refuses("barrel(#)", Edges.FULL, "1", "500");
        E.refuses("barrel(#)", Edges.OUTSIDE, "0", "501");
        E.ahead("40 * barrel(1); 3 * tip(); depth(90)");
        E.refuses("barrel(#)", Edges.FULL, "1", "500");
        E.ahead("depth(90); 20 * barrel(1); depth(0); go(0, true); minutes(9); 20 * barrel(1)");
        E.refuses("barrel(#)", Edges.FULL, "1");
    }

    private static void breathing() {
        E.sentence("In a MINUTE each MAN who is IN or OUT makes as many FRESH SHARES FOUL");
        E.due("minutes(200); air(1)", 0);
        E.due("go(0, true); go(0, false); minutes(1); air(1)", 0);
        E.due("go(5, true); minutes(1); air(1)", 3);
        E.due("go(5, true); out(5, 2, 24); minutes(1); air(1)", 3);
        E.due("go(5, true); out(5, 2, 24); go(5, true); minutes(1); air(1)", 3);
        String all = "";
        for (int man = 0; man < 6; man++) all += "go(" + man + ", true); ";
        E.due(all + "minutes(1); air(1)", 18);
        E.due(all + "out(0, 0, 24); out(1, 0, 24); out(2, 1, 24); minutes(1); air(0)", 982);
        E.due("go(0, true); depth(90); minutes(1); air(1)", 3);
    }

    private static void lacks() {
        E.sentence("by numbers; if there are fewer left, all these, and he LACKS, which is counted.");
        E.ahead("breath(30); room(120); go(0, true)");
        E.due("minutes(4)", 0);
        dueAir("minutes(4)", 0, 120);
        E.due("minutes(4); minutes(1)", 1);
        dueAir("minutes(5)", 0, 120);
        E.due("minutes(4); minutes(200)", 200);
        E.ahead("breath(30); room(119); go(0, true)");
        E.due("minutes(4)", 1);
        dueAir("minutes(4)", 0, 119);
        E.due("minutes(4); air(11)", 1);
        E.ahead("breath(30); room(121); go(0, true)");
        E.due("minutes(4)", 0);
        dueAir("minutes(4)", 1, 120);
        E.due("minutes(5)", 1);
        dueAir("minutes(5)", 0, 121);
        // In the second minute the first has 30 of the 40 that are left, the second 10.
        E.ahead("breath(30); room(100); go(1, true); go(4, true)");
        E.due("minutes(2)", 1);
        dueAir("minutes(2)", 0, 100);
        E.due("minutes(3)", 3);
        E.due("minutes(3); air(11)", 3);
        E.due("minutes(3); air(12)", 0);
        E.ahead(ALL_FOUL);
        E.due("minutes(1); go(0, false); minutes(200)", 0);
        E.due("minutes(1); go(0, false); minutes(200); air(11)", 1);
        E.due("tip(); barrel(25); minutes(1)", 0);
        E.due("tip(); barrel(24); minutes(1)", 1);
    }

    private static void sums() {
        E.sentence("SENT: what was there at first and all BARRELS");
        E.due("air(2)", 1000);
        E.due("barrel(500); air(2)", 1500);
        E.due("barrel(500); tip(); depth(5); depth(0); air(2)", 1500);
        E.due("40 * barrel(500); barrel(500); air(2)", 21000);
        E.due("barrel(0); barrel(501); air(2)", 1000);
        E.due("room(100); barrel(1); air(2)", 101);

        E.sentence("BREATHED: all that was made FOUL");
        E.ahead(ALL_FOUL);
        E.due("air(3)", 100);
        E.due("minutes(9); air(3)", 100);
        E.due("tip(); air(3)", 100);
        E.due("barrel(500); air(3)", 100);
        E.due("barrel(500); minutes(1); air(3)", 125);

        E.sentence("it is THERE, FOUL or FRESH, or SPILLED.");
        E.ahead("room(333); go(0, true); go(1, true); depth(7); 3 * barrel(77); breath(7); minutes(9); tip(); depth(2)");
        // 333 and 231 are 564; 126 FOUL; a tip of 282: 63 and 219; 63 and 219 are left, and 399 can be.
        E.row("air(#)", 219, 63, 564, 126, 282);
        // At 0 it holds 333 still; 300 more are 582, of which 249 go: 26 and 223.
        E.due("depth(0); barrel(300)", 249);
        E.row("depth(0); barrel(300); air(#)", 296, 37, 864, 126, 531);
    }

    private static void last() {
        E.sentence("LAST: for how many MINUTES from now there is breath for all who are IN or OUT");
        E.ahead("room(100); breath(25); go(0, true)");
        E.due("air(8)", 4);
        E.due("minutes(4); air(8)", 0);
        E.due("minutes(200); air(8)", 0);
        E.due("breath(26); air(8)", 3);
        E.due("breath(1); air(8)", 100);
        E.due("go(1, true); air(8)", 2);
        E.due("go(1, true); go(2, true); air(8)", 1);
        E.due("go(1, true); go(2, true); go(3, true); go(4, true); air(8)", 0);
        E.due("out(0, 0, 24); air(8)", 4);
        E.due("go(1, true); out(1, 0, 24); air(8)", 2);
        E.due("depth(90); air(8)", 4);
        E.due("room(5000); air(8)", 4);
        E.ahead("room(5000); breath(1)");
        E.due("go(0, true); air(8)", 5000);
        E.due("go(0, true); depth(90); 40 * barrel(500); air(8)", 25000);

        E.sentence("if nothing else is done (STAY does not matter)");
        E.due("stay(1); go(0, true); out(0, 0, 24); air(8)", 333);
        E.due("stay(1); go(0, true); out(0, 0, 24); minutes(50); air(8)", 283);

        E.sentence("100000, if no MAN is IN or OUT.");
        E.due("air(8)", 100000);
        E.due("go(0, true); go(0, false); air(8)", 100000);
        E.due("go(0, true); go(1, true); go(0, false); air(8)", 333);
        E.due(ALL_FOUL + "; go(0, false); air(8)", 100000);
        E.due("room(5000); air(8)", 100000);
    }

    private static void foulness() {
        E.sentence("FOULNESS: FOUL times 100 by all SHARES (0 without any)");
        E.ahead("room(101); breath(1); go(0, true)");
        E.due("air(7)", 0);
        E.due("minutes(1); air(7)", 0);
        E.due("minutes(2); air(7)", 1);
        E.due("minutes(100); air(7)", 99);
        E.due("minutes(101); air(7)", 100);
        E.due("minutes(101); 12 * tip(); air(7)", 100);
        E.ahead("room(100); breath(1); go(0, true)");
        E.due("minutes(1); air(7)", 1);
        E.due("minutes(1); depth(90); air(7)", 1);
        E.ahead("room(5000); breath(30); go(0, true); minutes(166)");
        E.due("air(7)", 99);
        E.due("breath(20); minutes(1); air(7)", 100);
    }

    private static void fewest() {
        E.sentence("FEWEST barrels of b SHARES that, let in one by one now, bring FOULNESS to LIMIT or below");
        E.ahead("room(100); breath(20); go(0, true); minutes(2)");
        E.keeps("fewest(1)", 0);
        E.due("limit(39); fewest(100)", 1);
        E.due("limit(39); fewest(2)", Edges.NONE);
        E.due("limit(39); fewest(3)", 1);
        E.ahead(ALL_FOUL + "; depth(90)");
        E.due("limit(100); fewest(1)", 0);
        E.due("limit(99); fewest(1)", 1);
        E.due("limit(98); fewest(1)", 2);
        E.due("limit(50); fewest(100)", 1);
        E.due("limit(50); fewest(98)", 1);
        E.due("limit(50); fewest(96)", 2);
        // 100 of 600, 91 of 1000, then 61, 41, 28 and 19.
        E.due("limit(1); fewest(500)", 6);
        E.due("limit(2); fewest(500)", 5);
        E.keeps("fewest(500)", 1);
        E.ahead(ALL_FOUL);
        // Of 101 one goes, and 100 by 101 of it is cut: the FRESH one. Of 102 two go, one of each.
        E.due("limit(99); fewest(1)", Edges.NONE);
        E.due("limit(99); fewest(2)", 1);
        // 500 more are 100 in 600: 83 FOUL ones of 500 go; then 14, then 2, and one stays for good.
        E.due("limit(16); fewest(500)", 2);
        E.due("limit(17); fewest(500)", 1);
        E.due("limit(3); fewest(500)", 2);
        E.due("limit(2); fewest(500)", 3);
        E.due("limit(1); fewest(500)", 3);

        E.sentence("fewest: OUTSIDE: 1 to 500.");
        E.due("fewest(1)", 0);
        E.due("fewest(500)", 0);
        E.refuses("fewest(#)", Edges.OUTSIDE, "0", "501", "-1");
        E.refuses("fewest(#)", Edges.OUTSIDE, EXTREMES);
        E.ahead("40 * barrel(1)");
        E.refuses("fewest(#)", Edges.OUTSIDE, "0", "501");
    }

    private static void fewestIsFortyOrNone() {
        E.sentence("0 to 40; NONE: not 40.");
        E.ahead(ALL_FOUL + "; depth(90)");
        // 38 of 3 make 100 of 214, cut 46, and 39 of 217, cut 46; 40 make 100 of 220, cut 45.
        E.due("limit(46); fewest(3)", 38);
        E.due("limit(45); fewest(3)", 40);
        E.due("limit(44); fewest(3)", Edges.NONE);
        E.due("limit(71); fewest(1)", 39);
        E.due("limit(70); fewest(1)", Edges.NONE);
        E.keeps("fewest(1)", Edges.NONE);
        E.ahead(ALL_FOUL + "; depth(90); limit(45); 40 * barrel(1)");
        // Those let in ahead are no matter: 100 of 140; 25 of 3 make 100 of 215, cut 46, and 26 of 218, cut 45.
        E.due("fewest(3)", 26);
        E.due("limit(1); fewest(500)", 6);
    }

    private static void room() {
        E.sentence("room: ROOM: which it was; THE BELL is full of FRESH SHARES then");
        E.ahead("room(200)");
        E.due("room(300)", 200);
        E.due("room(300); air(0)", 300);
        E.due("room(300); air(9)", 300);
        E.due("room(100); air(0)", 100);
        E.due("room(100); air(6)", 0);
        E.due("tip(); room(200)", 200);
        E.due("tip(); room(200); air(0)", 200);
        E.due("breath(30); go(0, true); minutes(9); go(0, false); room(200); air(0)", 200);
        E.due("breath(30); go(0, true); minutes(9); go(0, false); room(200); air(1)", 0);
        E.due("room(99); room(100)", 200);
    }

    private static void roomAnew() {
        E.sentence("all counts of AIR begin anew.");
        E.ahead("room(100); breath(30); stay(1); go(0, true); out(0, 0, 24); minutes(9); go(0, true); go(0, false);"
            + "40 * barrel(9); tip()");
        E.due("air(11)", 6);
        E.due("air(12)", 8);
        E.row("room(150); air(#)", 150, 0, 150, 0, 0, 150, 0, 0, 100000, 150, 0, 0, 0);
        E.due("room(150); barrel(1)", 1);
        E.due("room(150); 40 * barrel(1); barrel(1)", Edges.FULL);
        E.due("room(150); breath(1)", 30);
        E.due("limit(7); room(150); limit(1)", 7);
        E.due("room(150); stay(9)", 1);
        E.due("room(150); told(0)", 9);
    }

    private static void roomState() {
        E.sentence("room: STATE: a MAN is IN or OUT, or DEPTH is not 0.");
        for (int man = 0; man < 6; man++) {
            E.ahead("tip(); go(" + man + ", true)");
            E.refuses("room(#)", Edges.STATE, "100", "1000", "5000");
            E.refuses("room(#)", Edges.OUTSIDE, "99", "5001");
            E.ahead("tip(); go(" + man + ", true); out(" + man + ", 1, 24)");
            E.refuses("room(#)", Edges.STATE, "100");
            E.refuses("room(#)", Edges.OUTSIDE, "99");
        }
        for (String deep : new String[] {"1", "90"}) {
            E.ahead("tip(); depth(" + deep + ")");
            E.refuses("room(#)", Edges.STATE, "100", "1000", "5000");
            E.refuses("room(#)", Edges.OUTSIDE, "99", "5001");
        }
        E.ahead("go(3, true); depth(1)");
        E.refuses("room(#)", Edges.STATE, "100");
        E.ahead("go(3, true); depth(1); depth(0); go(3, false)");
        E.due("room(100)", 1000);
    }

    private static void depth() {
        E.sentence("depth: DEPTH: SHARES that SPILLED. OUTSIDE; STATE: a MAN is OUT.");
        E.due("depth(90)", 0);
        E.due("depth(90); 40 * barrel(500); depth(0)", 9000);
        E.due("depth(0)", 0);
        E.due("go(0, true); depth(90)", 0);
        E.due("go(0, true); depth(90); depth(0)", 0);
        for (int man = 0; man < 6; man++) {
            E.ahead("depth(0); go(" + man + ", true); depth(9); out(" + man + ", 0, 24)");
            E.refuses("depth(#)", Edges.STATE, "0", "8", "9", "10", "90");
            E.refuses("depth(#)", Edges.OUTSIDE, "-1", "91");
            E.due("go(" + man + ", true); depth(8)", 0);
        }
    }

    private static void minutes() {
        E.sentence("minutes: n MINUTES (1 to 200)");
        E.due("minutes(1); told(0)", 1);
        E.due("minutes(200); told(0)", 200);
        E.due("minutes(200); minutes(1); told(0)", 201);
        E.ahead("go(0, true); out(0, 0, 24)");
        E.refuses("minutes(#)", Edges.OUTSIDE, "0", "201", "-1");
        E.refuses("minutes(#)", Edges.OUTSIDE, EXTREMES);

        E.sentence("how often a MAN LACKED, in breath or beyond STAY.");
        E.ahead("room(100); breath(25); stay(5); go(0, true); out(0, 0, 24)");
        E.due("minutes(4)", 0);
        E.due("minutes(5)", 1);
        E.due("minutes(6)", 3);
        E.due("minutes(6); minutes(1)", 2);
        E.due("minutes(6); air(11)", 2);
        E.due("minutes(6); air(12)", 1);
        E.due("minutes(6); barrel(25); minutes(1)", 2);
        E.due("minutes(6); tip(); barrel(25); minutes(1)", 1);
        E.due("minutes(6); tip(); barrel(25); minutes(1); air(12)", 2);
        E.due("minutes(200)", 391);
    }

    private static void air() {
        E.sentence("air: Of AIR: 0 FRESH .. 12 LACKS beyond STAY. OUTSIDE.");
        E.ahead("room(100); breath(30); stay(1); go(0, true); depth(10); barrel(7); out(0, 0, 24); minutes(5); tip()");
        E.row("air(#)", 0, 54, 107, 107, 53, 27, 73, 100, 0, 200, 1, 2, 4);
        for (int what = 0; what <= 12; what++) {
            int due = new int[] {0, 54, 107, 107, 53, 27, 73, 100, 0, 200, 1, 2, 4}[what];
            E.keeps("air(" + what + ")", due);
        }
        E.refuses("air(#)", Edges.OUTSIDE, "-1", "13", "-6");
        E.refuses("air(#)", Edges.OUTSIDE, EXTREMES);
    }
}
