/** The edges of "3 the wreck" and of promises 17 to 25, a sentence of the document after the other. */
public final class WreckEdgesTest {
    private static final Edges E = new Edges();
    private static final String[] NO_SQUARE = {"-1", "49", "MIN", "MAX"};
    private static final String TWELVE = "12 * thing(24, 1, 1, 1)";
    private static final String MAN_OUT = "go(0, true); out(0, 0, 24)";

    public static void main(String[] args) {
        twelveThings();
        thingRanges();
        rings();
        longRings();
        free();
        works();
        raised();
        tides();
        planOf();
        inOneTide();
        tidesInOrder();
        behindWhatItLiesUnder();
        hope();
        fewestMinutes();
        leastBits();
        order();
        firstTide();
        under();
        tangle();
        work();
        ofThing();
        calm();
        best();
        tideOf();
        planFollows();
        E.finish();
    }

    /** hope, minutes, how many; then thing and tide by turns */
    private static void duePlan(String calls, int hope, int minutes, int... thingsAndTides) {
        String ahead = calls.isEmpty() ? "" : calls + "; ";
        int n = thingsAndTides.length / 2;
        E.due(ahead + "best(-1)", hope);
        E.due(ahead + "best(-2)", minutes);
        E.due(ahead + "best(-3)", n);
        for (int i = 0; i < n; i++) {
            E.due(ahead + "best(" + i + ")", thingsAndTides[2 * i]);
            E.due(ahead + "tideOf(" + i + ")", thingsAndTides[2 * i + 1]);
        }
        E.due(ahead + "best(" + n + ")", Edges.NONE);
        E.due(ahead + "tideOf(" + n + ")", Edges.NONE);
    }

    private static void twelveThings() {
        E.sentence("THINGS, 12 at most, numbered from 0 on");
        E.due("thing(24, 1, 1, 1)", 0);
        E.due("2 * thing(24, 1, 1, 1)", 1);
        E.due(TWELVE, 11);
        E.due(TWELVE + "; told(3)", 12);
        E.due("11 * thing(24, 1, 1, 1); thing(49, 1, 1, 1); thing(24, 1, 0, 1); thing(24, 2, 2, 2)", 11);

        E.sentence("thing: UNKNOWN: the SQUARE; OUTSIDE; FULL.");
        E.ahead(TWELVE);
        E.refuses("thing(#, 1, 1, 1)", Edges.FULL, "0", "24", "48");
        E.refuses("thing(24, #, 1, 1)", Edges.OUTSIDE, "-1", "1001");
        E.refuses("thing(24, 1, #, 1)", Edges.OUTSIDE, "0", "201");
        E.refuses("thing(24, 1, 1, #)", Edges.OUTSIDE, "-1", "101");
        E.refuses("thing(#, 1, 1, 1)", Edges.UNKNOWN, NO_SQUARE);
        E.refuses("thing(#, 1001, 0, 101)", Edges.UNKNOWN, NO_SQUARE);
        E.ahead(TWELVE + "; " + MAN_OUT + "; work(0, 3); minutes(1)");
        E.refuses("thing(#, 1, 1, 1)", Edges.FULL, "24");
        E.ahead("thing(24, 1, 1, 1)");
        E.refuses("thing(#, 1001, 0, 101)", Edges.UNKNOWN, NO_SQUARE);
    }

    private static void thingRanges() {
        E.sentence("a SQUARE");
        E.due("thing(0, 1, 1, 1); ofThing(0, 0)", 0);
        E.due("thing(48, 1, 1, 1); ofThing(0, 0)", 48);
        E.refuses("thing(#, 1, 1, 1)", Edges.UNKNOWN, NO_SQUARE);

        E.sentence("WORTH (0 to 1000)");
        E.due("thing(24, 0, 1, 1); ofThing(0, 1)", 0);
        E.due("thing(24, 1000, 1, 1); ofThing(0, 1)", 1000);
        E.refuses("thing(24, #, 1, 1)", Edges.OUTSIDE, "-1", "1001", "MIN", "MAX");

        E.sentence("WORK (1 to 200 MINUTES)");
        E.due("thing(24, 1, 1, 1); ofThing(0, 2)", 1);
        E.due("thing(24, 1, 200, 1); ofThing(0, 2)", 200);
        E.refuses("thing(24, 1, #, 1)", Edges.OUTSIDE, "0", "201", "-1", "MIN", "MAX");

        E.sentence("ODDS (0 to 100 hundredths that its rope holds)");
        E.due("thing(24, 1, 1, 0); ofThing(0, 3)", 0);
        E.due("thing(24, 1, 1, 100); ofThing(0, 3)", 100);
        E.refuses("thing(24, 1, 1, #)", Edges.OUTSIDE, "-1", "101", "MIN", "MAX");
    }

    private static void rings() {
        E.sentence("One may lie UNDER others (none round in a ring).");
        E.ahead("4 * thing(24, 1, 1, 1); under(1, 0, true)");
        E.keeps("under(0, 1, true)", Edges.NO);
        E.due("under(1, 2, true)", 0);
        E.due("under(1, 2, true); under(1, 3, true); ofThing(1, 8)", 13);
        E.due("under(1, 0, true)", 1);
        E.due("under(2, 0, true)", 0);
        E.ahead("4 * thing(24, 1, 1, 1); under(0, 1, true); under(1, 2, true)");
        E.keeps("under(2, 0, true)", Edges.NO);
        E.keeps("under(2, 1, true)", Edges.NO);
        E.keeps("under(1, 0, true)", Edges.NO);
        E.due("under(0, 2, true)", 0);
        E.due("under(2, 3, true)", 0);
        E.due("under(3, 0, true)", 0);
        E.due("under(3, 0, true); under(2, 3, true)", Edges.NO);
        E.due("under(1, 2, false); under(2, 0, true)", 0);
        E.due("under(0, 1, false); under(2, 0, true)", 0);
        // Two ways from 0 to 3 are no ring.
        E.ahead("4 * thing(24, 1, 1, 1); under(0, 1, true); under(0, 2, true); under(1, 3, true)");
        E.due("under(2, 3, true)", 0);
        E.due("under(2, 3, true); under(3, 0, true)", Edges.NO);
        E.due("under(2, 3, true); under(1, 3, false); under(3, 0, true)", Edges.NO);
        E.due("under(2, 3, true); under(1, 3, false); under(3, 1, true)", 0);
        E.ahead("2 * thing(24, 1, 1, 1); under(1, 0, true); " + MAN_OUT + "; work(0, 0); minutes(1)");
        E.keeps("under(0, 1, true)", Edges.NO);
    }

    private static void longRings() {
        E.sentence("under: NO: it would be a ring.");
        StringBuilder up = new StringBuilder(TWELVE);
        StringBuilder down = new StringBuilder(TWELVE);
        for (int i = 0; i < 11; i++) {
            up.append("; under(").append(i).append(", ").append(i + 1).append(", true)");
            down.append("; under(").append(11 - i).append(", ").append(10 - i).append(", true)");
        }
        E.ahead(up.toString());
        E.keeps("under(11, 0, true)", Edges.NO);
        E.keeps("under(11, 10, true)", Edges.NO);
        E.keeps("under(6, 5, true)", Edges.NO);
        E.due("under(11, 0, false)", 0);
        E.due("under(0, 11, true)", 0);
        E.due("under(5, 6, false); under(11, 0, true)", 0);
        E.ahead(down.toString());
        E.keeps("under(0, 11, true)", Edges.NO);
        E.keeps("under(0, 1, true)", Edges.NO);
        E.due("under(0, 11, false)", 0);
        E.due("under(11, 0, true)", 0);
        E.due("under(6, 5, false); under(0, 11, true)", 0);
    }

    private static void free() {
        E.sentence("It is FREE, if all it lies UNDER are RAISED.");
        E.ahead("4 * thing(24, 1, 1, 1); under(3, 0, true); under(3, 1, true); " + MAN_OUT);
        E.row("ofThing(#, 6)", 1, 1, 1, 0);
        E.due("work(0, 0); minutes(1); ofThing(3, 6)", 0);
        E.due("work(0, 0); minutes(1); work(0, 1); minutes(1); ofThing(3, 6)", 1);
        E.due("work(0, 0); minutes(1); under(3, 1, false); ofThing(3, 6)", 1);
        E.due("under(3, 1, false); ofThing(3, 6)", 0);
        E.due("under(3, 1, false); under(3, 0, false); ofThing(3, 6)", 1);
        E.due("under(2, 3, true); work(0, 0); minutes(1); work(0, 1); minutes(1); ofThing(2, 6)", 0);
        E.due("tangle(0, true); ofThing(0, 6)", 1);
        E.due("work(0, 0); minutes(1); ofThing(0, 6)", 1);
        E.due("work(0, 0); minutes(1); under(0, 2, true); ofThing(0, 6)", 0);
    }

    private static void works() {
        E.sentence("A MAN who is OUT at the SQUARE of the THING told to him works a MINUTE at it");
        E.ahead("thing(24, 1, 9, 1); thing(25, 1, 9, 1); go(0, true); go(1, true)");
        E.due("out(0, 0, 24); work(0, 0); minutes(1); ofThing(0, 4)", 1);
        E.due("out(0, 0, 24); work(0, 0); minutes(8); ofThing(0, 4)", 8);
        E.due("out(0, 0, 24); work(0, 0); minutes(1); ofThing(1, 4)", 0);
        E.due("work(0, 0); minutes(1); ofThing(0, 4)", 0);
        E.due("go(0, false); work(0, 0); minutes(1); ofThing(0, 4)", 0);
        E.due("out(0, 0, 25); work(0, 0); minutes(1); ofThing(0, 4)", 0);
        E.due("out(0, 0, 25); work(0, 0); minutes(1); out(0, 0, 24); minutes(1); ofThing(0, 4)", 1);
        E.due("out(0, 0, 24); minutes(1); ofThing(0, 4)", 0);
        E.due("out(0, 0, 24); work(0, 0); work(0, -1); minutes(1); ofThing(0, 4)", 0);
        E.due("out(0, 0, 24); work(0, 1); minutes(1); ofThing(1, 4)", 0);
        E.due("out(0, 0, 24); work(1, 0); minutes(1); ofThing(0, 4)", 0);
        E.due("out(0, 0, 24); work(0, 0); out(1, 0, 24); work(1, 0); minutes(1); ofThing(0, 4)", 2);
        E.due("out(0, 0, 24); work(0, 0); out(1, 1, 24); work(1, 0); minutes(1); ofThing(0, 4)", 2);
        E.due("out(0, 0, 24); work(0, 0); minutes(1); go(0, true); minutes(5); ofThing(0, 4)", 1);
        E.due("out(0, 0, 24); work(0, 0); minutes(1); go(0, true); out(0, 0, 24); minutes(5); ofThing(0, 4)", 6);

        E.sentence("if it is FREE, neither TANGLED nor RAISED");
        E.ahead("thing(24, 1, 2, 1); thing(24, 1, 9, 1); " + MAN_OUT);
        E.due("work(0, 0); under(0, 1, true); minutes(1); ofThing(0, 4)", 0);
        E.due("work(0, 0); under(0, 1, true); minutes(1); under(0, 1, false); minutes(1); ofThing(0, 4)", 1);
        E.due("work(0, 1); under(0, 1, true); minutes(1); ofThing(1, 4)", 1);
        E.due("work(0, 0); tangle(0, true); minutes(1); ofThing(0, 4)", 0);
        E.due("work(0, 0); tangle(0, true); minutes(1); tangle(0, false); minutes(1); ofThing(0, 4)", 1);
        E.due("work(0, 0); tangle(1, true); minutes(1); ofThing(0, 4)", 1);
        E.due("work(0, 0); minutes(2); ofThing(0, 4)", 2);
        E.due("work(0, 0); minutes(3); ofThing(0, 4)", 2);
        E.due("work(0, 0); minutes(200); ofThing(0, 4)", 2);
    }

    private static void raised() {
        E.sentence("with WORK MINUTES in all it is RAISED at once.");
        E.ahead("thing(24, 7, 1, 1); thing(24, 9, 200, 1); thing(24, 5, 3, 1); go(1, true); " + MAN_OUT);
        E.due("work(0, 0); told(4)", 0);
        E.due("work(0, 0); minutes(1); told(4)", 1);
        E.due("work(0, 0); minutes(1); ofThing(0, 5)", 1);
        E.due("work(0, 1); minutes(199); ofThing(1, 5)", 0);
        E.due("work(0, 1); minutes(200); ofThing(1, 5)", 1);
        E.due("work(0, 1); minutes(200); told(4)", 2);
        E.due("work(0, 1); minutes(200); told(9)", 9);
        E.due("work(0, 0); minutes(1); work(0, 1); minutes(200); told(9)", 16);
        E.due("work(0, 0); minutes(1); work(0, 1); minutes(200); told(4)", 3);
        E.due("work(0, 2); work(1, 2); out(1, 0, 24); minutes(1); ofThing(2, 5)", 0);
        E.due("work(0, 2); work(1, 2); out(1, 0, 24); minutes(2); ofThing(2, 5)", 1);
        E.due("work(0, 2); work(1, 2); out(1, 0, 24); minutes(2); ofThing(2, 4)", 3);
        E.due("work(0, 2); minutes(2); work(0, -1); work(1, 2); out(1, 1, 24); minutes(1); ofThing(2, 5)", 1);
        E.due("work(0, 0); minutes(1); tangle(0, true); ofThing(0, 5)", 1);
    }

    private static void tides() {
        E.sentence("TIDES, 5 at most");
        E.due("tide(300)", 1);
        E.due("5 * tide(300)", 5);
        E.due("5 * tide(300); told(5)", 5);
        E.due("4 * tide(1); tide(0); tide(301); tide(1)", 5);
        E.ahead("5 * tide(3)");
        E.refuses("tide(#)", Edges.FULL, "1", "3", "300");
        E.refuses("tide(#)", Edges.OUTSIDE, "0", "301");
        E.due("calm(); tide(1)", 1);

        E.sentence("MINUTES each (1 to 300)");
        E.ahead("thing(24, 1, 1, 1); thing(24, 2, 200, 1); thing(24, 4, 100, 1)");
        duePlan("tide(1)", 1, 1, 0, 0);
        duePlan("tide(300)", 6, 300, 1, 0, 2, 0);
        duePlan("tide(299)", 5, 101, 0, 0, 2, 0);
        E.refuses("tide(#)", Edges.OUTSIDE, "0", "301", "-1", "MIN", "MAX");
    }

    private static void planOf() {
        E.sentence("A PLAN: THINGS (not RAISED, not TANGLED) one behind the other");
        duePlan("", 0, 0);
        duePlan("tide(300)", 0, 0);
        duePlan("thing(24, 1, 1, 1)", 0, 0);
        E.ahead("thing(24, 5, 1, 2); tide(1)");
        duePlan("", 10, 1, 0, 0);
        duePlan("tangle(0, true)", 0, 0);
        duePlan("tangle(0, true); tangle(0, false)", 10, 1, 0, 0);
        duePlan(MAN_OUT + "; work(0, 0); minutes(1)", 0, 0);
        duePlan(MAN_OUT + "; work(0, 0); minutes(1); tangle(0, true)", 0, 0);
        E.ahead("2 * thing(24, 1, 3, 1)");
        duePlan("tide(6)", 2, 6, 0, 0, 1, 0);
        duePlan("tide(5)", 1, 3, 0, 0);
    }

    private static void inOneTide() {
        E.sentence("each with what is left of its WORK begun and ended in one TIDE");
        E.ahead("thing(24, 1, 6, 1); " + MAN_OUT + "; work(0, 0)");
        duePlan("tide(6)", 1, 6, 0, 0);
        duePlan("tide(5)", 0, 0);
        duePlan("5 * tide(5)", 0, 0);
        duePlan("tide(5); minutes(1)", 1, 5, 0, 0);
        duePlan("tide(1); minutes(4)", 0, 0);
        duePlan("tide(1); minutes(5)", 1, 1, 0, 0);
        duePlan("tide(1); minutes(6)", 0, 0);
        E.ahead("thing(24, 1, 200, 1); thing(24, 1, 200, 1)");
        duePlan("tide(200)", 1, 200, 0, 0);
        duePlan("tide(199); tide(200); tide(199)", 1, 200, 0, 1);
        duePlan("tide(200); tide(200)", 2, 400, 0, 0, 1, 1);
        duePlan("tide(300); tide(199)", 1, 200, 0, 0);
    }

    private static void tidesInOrder() {
        E.sentence("TIDES in order");
        E.ahead("thing(24, 1, 10, 1); thing(24, 1, 5, 1); under(1, 0, true)");
        duePlan("tide(10); tide(5)", 2, 15, 0, 0, 1, 1);
        duePlan("tide(5); tide(10)", 1, 10, 0, 1);
        duePlan("tide(5); tide(14)", 1, 10, 0, 1);
        duePlan("tide(5); tide(15)", 2, 15, 0, 1, 1, 1);
        duePlan("tide(5); tide(10); tide(5)", 2, 15, 0, 1, 1, 2);
        duePlan("tide(5); tide(10); tide(4); tide(5)", 2, 15, 0, 1, 1, 3);
        duePlan("tide(9); tide(9); tide(9); tide(9); tide(10)", 1, 10, 0, 4);
    }

    private static void behindWhatItLiesUnder() {
        E.sentence("each behind all it lies UNDER that are not RAISED.");
        E.ahead("thing(24, 9, 1, 1); thing(24, 0, 1, 1); thing(24, 0, 1, 0); under(0, 1, true); under(0, 2, true);"
            + MAN_OUT + "; work(0, 2)");
        duePlan("tide(3)", 9, 3, 1, 0, 2, 0, 0, 0);
        duePlan("tide(2)", 0, 0);
        duePlan("tide(2); minutes(1)", 9, 2, 1, 0, 0, 0);
        duePlan("tide(3); tangle(1, true)", 0, 0);
        duePlan("tide(3); tangle(2, true)", 0, 0);
        duePlan("tide(3); minutes(1); tangle(2, true)", 9, 2, 1, 0, 0, 0);
        duePlan("tide(3); under(1, 2, true)", 9, 3, 2, 0, 1, 0, 0, 0);
        duePlan("tide(1); under(0, 1, false); under(0, 2, false)", 9, 1, 0, 0);
        duePlan("tide(1); minutes(1); under(0, 1, false)", 9, 1, 0, 0);
    }

    private static void hope() {
        E.sentence("HOPE of a PLAN: the sum of WORTH times ODDS.");
        duePlan("thing(24, 1000, 200, 100); tide(200)", 100000, 200, 0, 0);
        duePlan("thing(24, 1, 1, 1); tide(1)", 1, 1, 0, 0);
        E.due("12 * thing(24, 1000, 1, 100); tide(12); best(-1)", 1200000);
        E.due("12 * thing(24, 1000, 25, 100); tide(300); best(-1)", 1200000);
        E.due("12 * thing(24, 1000, 25, 100); tide(299); best(-1)", 1100000);
        E.due("12 * thing(24, 1000, 125, 100); 5 * tide(300); best(-1)", 1000000);
        E.due("12 * thing(24, 1000, 200, 100); 5 * tide(300); best(-1)", 500000);

        E.sentence("THE BEST: of the greatest HOPE");
        E.ahead("tide(5); thing(24, 10, 5, 10)");
        duePlan("thing(24, 11, 5, 10)", 110, 5, 1, 0);
        duePlan("thing(24, 9, 5, 10)", 100, 5, 0, 0);
        duePlan("thing(24, 1, 4, 100); thing(24, 1, 1, 1)", 101, 5, 1, 0, 2, 0);
        duePlan("thing(24, 1, 4, 98); thing(24, 1, 1, 1)", 100, 5, 0, 0);
    }

    private static void fewestMinutes() {
        E.sentence("then of the fewest MINUTES of WORK");
        E.ahead("tide(9); thing(24, 10, 9, 10)");
        duePlan("thing(24, 10, 8, 10)", 100, 8, 1, 0);
        duePlan("thing(24, 5, 4, 10); thing(24, 5, 4, 10)", 100, 8, 1, 0, 2, 0);
        duePlan("thing(24, 5, 5, 10); thing(24, 5, 4, 10)", 100, 9, 0, 0);
        duePlan("thing(24, 10, 9, 10); " + MAN_OUT + "; work(0, 1); minutes(1)", 100, 8, 1, 0);
        E.ahead("tide(9)");
        duePlan("thing(24, 0, 1, 100)", 0, 0);
        duePlan("thing(24, 1000, 1, 0)", 0, 0);
        duePlan("thing(24, 0, 1, 100); thing(24, 1, 1, 1)", 1, 1, 1, 0);
        duePlan("thing(24, 1000, 1, 0); thing(24, 1, 1, 1); under(1, 0, true)", 1, 2, 0, 0, 1, 0);
    }

    private static void leastBits() {
        E.sentence("then the least as bits of THINGS");
        duePlan("tide(2); 3 * thing(24, 1, 2, 1)", 1, 2, 0, 0);
        duePlan("tide(4); 3 * thing(24, 1, 2, 1)", 2, 4, 0, 0, 1, 0);
        duePlan("tide(2); 3 * thing(24, 1, 2, 1); tangle(0, true)", 1, 2, 1, 0);
        // Bits 4 against bits 3: two small ones of low numbers are less than one of the next.
        duePlan("tide(4); thing(24, 1, 2, 1); thing(24, 1, 2, 1); thing(24, 2, 4, 1)", 2, 4, 0, 0, 1, 0);
        duePlan("tide(4); thing(24, 2, 4, 1); thing(24, 1, 2, 1); thing(24, 1, 2, 1)", 2, 4, 0, 0);
        // Bits 6 against bits 9.
        duePlan("tide(4); thing(24, 3, 3, 1); thing(24, 2, 2, 1); thing(24, 2, 2, 1); thing(24, 1, 1, 1)",
            4, 4, 1, 0, 2, 0);
        E.due("tide(11); 12 * thing(24, 1, 1, 1); best(10)", 10);
        E.due("tide(11); 12 * thing(24, 1, 1, 1); best(11)", Edges.NONE);
    }

    private static void order() {
        E.sentence("told in the order: each the THING with the least number with which all can still be done");
        E.ahead("thing(24, 1, 6, 1); thing(24, 1, 4, 1)");
        duePlan("tide(6); tide(4)", 2, 10, 0, 0, 1, 1);
        duePlan("tide(4); tide(6)", 2, 10, 1, 0, 0, 1);
        duePlan("tide(10)", 2, 10, 0, 0, 1, 0);
        duePlan("tide(10); under(0, 1, true)", 2, 10, 1, 0, 0, 0);
        duePlan("tide(4); tide(10)", 2, 10, 0, 1, 1, 1);
        duePlan("tide(4); tide(9)", 2, 10, 1, 0, 0, 1);
        // 4 and 6 fill one tide, 3 and 4 the other: behind 0 only 2 leaves all to be done.
        E.ahead("thing(24, 1, 4, 1); thing(24, 1, 3, 1); thing(24, 1, 6, 1); thing(24, 1, 4, 1)");
        duePlan("tide(10); tide(7)", 4, 17, 0, 0, 2, 0, 1, 1, 3, 1);
        duePlan("tide(7); tide(10)", 4, 17, 0, 0, 1, 0, 2, 1, 3, 1);
        duePlan("tide(17)", 4, 17, 0, 0, 1, 0, 2, 0, 3, 0);
    }

    private static void firstTide() {
        E.sentence("each in the first TIDE in which it can be.");
        E.ahead("thing(24, 1, 5, 1); thing(24, 1, 1, 1)");
        duePlan("5 * tide(6)", 2, 6, 0, 0, 1, 0);
        duePlan("5 * tide(5)", 2, 6, 0, 0, 1, 1);
        duePlan("tide(4); tide(5); tide(1)", 2, 6, 0, 1, 1, 2);
        duePlan("tide(4); tide(5); tide(300)", 2, 6, 0, 1, 1, 2);
        duePlan("tide(1); tide(2); tide(3); tide(4); tide(5)", 2, 6, 1, 0, 0, 4);
        duePlan("tide(1); tide(2); tide(3); tide(4); tide(6)", 2, 6, 0, 4, 1, 4);
    }

    private static void under() {
        E.sentence("under: A THING lies UNDER another one, or not: whether it did (1, 0).");
        E.ahead("12 * thing(24, 1, 1, 1)");
        E.due("under(0, 11, true)", 0);
        E.due("2 * under(0, 11, true)", 1);
        E.due("under(0, 11, true); under(0, 11, false)", 1);
        E.due("under(0, 11, true); 2 * under(0, 11, false)", 0);
        E.due("under(11, 0, false)", 0);
        E.due("under(11, 0, true); ofThing(11, 8)", 1);
        E.due("under(0, 11, true); ofThing(0, 8)", 2048);
        E.due("under(0, 11, true); ofThing(11, 8)", 0);
        E.due("under(0, 11, true); under(0, 10, true); under(0, 11, false); ofThing(0, 8)", 1024);

        E.sentence("under: UNKNOWN: also they are one");
        E.refuses("under(#, #, true)", Edges.UNKNOWN, "0", "11");
        E.ahead("12 * thing(24, 1, 1, 1); under(0, 1, true)");
        E.refuses("under(#, #, true)", Edges.UNKNOWN, "0", "1", "11", "12", "-1", "MIN");
        E.refuses("under(#, #, false)", Edges.UNKNOWN, "0", "1", "11", "12", "-1", "MAX");
        E.refuses("under(#, 0, true)", Edges.UNKNOWN, "12", "-1", "-6", "32", "MIN", "MAX");
        E.refuses("under(0, #, true)", Edges.UNKNOWN, "12", "-1", "-6", "32", "33", "MIN", "MAX");
        E.refuses("under(0, #, false)", Edges.UNKNOWN, "12", "-1", "-6", "33", "MIN", "MAX");
        E.ahead("2 * thing(24, 1, 1, 1)");
        E.refuses("under(1, #, true)", Edges.UNKNOWN, "2", "11");
        E.refuses("under(#, 1, false)", Edges.UNKNOWN, "2", "11");
    }

    private static void tangle() {
        E.sentence("tangle: A THING is TANGLED, or not: whether it was. UNKNOWN.");
        E.ahead("2 * thing(24, 1, 1, 1)");
        E.due("tangle(1, true)", 0);
        E.due("2 * tangle(1, true)", 1);
        E.due("tangle(1, true); tangle(1, false)", 1);
        E.due("tangle(1, false)", 0);
        E.due("tangle(1, true); tangle(0, true)", 0);
        E.due("tangle(1, true); ofThing(1, 7)", 1);
        E.due("tangle(1, true); ofThing(0, 7)", 0);
        E.refuses("tangle(#, true)", Edges.UNKNOWN, "2", "-1", "12", "32", "MIN", "MAX");
        E.refuses("tangle(#, false)", Edges.UNKNOWN, "2", "-1", "12", "MIN", "MAX");
        E.ahead(TWELVE + "; tangle(11, true)");
        E.due("tangle(11, false)", 1);
        E.refuses("tangle(#, false)", Edges.UNKNOWN, "12", "43", "-21");
    }

    private static void work() {
        E.sentence("work: A MAN is told to work at a THING (-1: at none): what he was told ahead (NONE). UNKNOWN.");
        E.ahead("2 * thing(24, 1, 9, 1); work(3, 1)");
        E.keeps("work(0, -1)", Edges.NONE);
        E.due("work(0, 0)", Edges.NONE);
        E.due("work(3, 0)", 1);
        E.due("work(3, -1)", 1);
        E.due("work(3, -1); work(3, 0)", Edges.NONE);
        E.due("work(3, 0); work(3, 0)", 0);
        E.due("work(3, -1); man(3, 4)", Edges.NONE);
        E.due("work(5, 0); work(3, 1)", 1);
        E.refuses("work(3, #)", Edges.UNKNOWN, "2", "-2", "-6", "12", "MIN", "MAX");
        E.refuses("work(#, 0)", Edges.UNKNOWN, "-1", "6", "MIN", "MAX");
        E.refuses("work(#, -1)", Edges.UNKNOWN, "-1", "6", "MIN", "MAX");
        E.refuses("work(#, 2)", Edges.UNKNOWN, "-1", "6");
    }

    private static void ofThing() {
        E.sentence("ofThing: Of a THING: 0 SQUARE .. 8 THINGS it lies UNDER (bits). UNKNOWN; OUTSIDE.");
        E.ahead("thing(1, 2, 3, 4); thing(24, 1000, 200, 100); thing(24, 5, 1, 0); under(1, 2, true); tangle(0, true);"
            + MAN_OUT + "; work(0, 2); minutes(1); work(0, 1); minutes(7); under(1, 0, true)");
        int[][] due = {{1, 2, 3, 4, 0, 0, 1, 1, 0}, {24, 1000, 200, 100, 7, 0, 0, 0, 5}, {24, 5, 1, 0, 1, 1, 1, 0, 0}};
        for (int thing = 0; thing < 3; thing++) {
            for (int what = 0; what < 9; what++) E.keeps("ofThing(" + thing + ", " + what + ")", due[thing][what]);
            E.refuses("ofThing(" + thing + ", #)", Edges.OUTSIDE, "-1", "9", "MIN", "MAX");
        }
        E.refuses("ofThing(#, 0)", Edges.UNKNOWN, "3", "-1", "11", "12", "MIN", "MAX");
        E.refuses("ofThing(#, 9)", Edges.UNKNOWN, "3", "-1", "12", "MIN", "MAX");
        E.ahead(TWELVE);
        E.due("ofThing(11, 0)", 24);
        E.refuses("ofThing(#, 0)", Edges.UNKNOWN, "12");
    }

    private static void calm() {
        E.sentence("calm: TIDES go: how many there were.");
        E.keeps("calm()", 0);
        E.due("5 * tide(9); calm()", 5);
        E.due("tide(9); calm()", 1);
        E.due("5 * tide(9); calm(); calm()", 0);
        E.due("5 * tide(9); calm(); told(5)", 0);
        E.due("5 * tide(9); calm(); 5 * tide(1)", 5);
        E.due("5 * tide(9); calm(); 6 * tide(1)", Edges.FULL);
        E.due("thing(24, 1, 9, 1); tide(9); calm(); best(-3)", 0);
        E.due("thing(24, 1, 9, 1); tide(9); calm(); tide(8); best(-3)", 0);
    }

    private static void best() {
        E.sentence("best: THE BEST: HOPE (i = -1), MINUTES of WORK (i = -2), how many THINGS (i = -3), the i-th; NONE.");
        E.ahead("2 * thing(24, 3, 5, 7); tide(10)");
        E.keeps("best(-1)", 42);
        E.keeps("best(-2)", 10);
        E.keeps("best(-3)", 2);
        E.keeps("best(0)", 0);
        E.keeps("best(1)", 1);
        E.refuses("best(#)", Edges.NONE, "2", "3", "11", "12", "4096", "MAX");

        E.sentence("best: OUTSIDE: i below -3.");
        E.refuses("best(#)", Edges.OUTSIDE, "-4", "-5", "-6", "MIN");
        E.ahead("");
        E.refuses("best(#)", Edges.OUTSIDE, "-4", "MIN");
        E.ahead(TWELVE + "; tide(12)");
        E.due("best(-3)", 12);
        E.row("best(#)", 0, 1, 2, 3, 4, 5, 6, 7, 8, 9, 10, 11, Edges.NONE, Edges.NONE);
    }

    private static void tideOf() {
        E.sentence("tideOf: The TIDE in which the i-th is raised; NONE.");
        E.ahead("tide(1); 2 * tide(5); 2 * thing(24, 3, 5, 7)");
        E.keeps("tideOf(0)", 1);
        E.keeps("tideOf(1)", 2);
        E.refuses("tideOf(#)", Edges.NONE, "2", "12", "-1", "-2", "-3", "-4", "MIN", "MAX");
        E.ahead(TWELVE + "; 4 * tide(2); tide(4)");
        E.row("tideOf(#)", 0, 0, 1, 1, 2, 2, 3, 3, 4, 4, 4, 4, Edges.NONE);
        E.ahead("");
        E.refuses("tideOf(#)", Edges.NONE, "0", "-1", "MIN", "MAX");
    }

    /** What was asked ahead of a change is not told any more behind it. */
    private static void planFollows() {
        E.sentence("THE BEST is that of the THINGS and TIDES as they are now.");
        E.ahead("thing(24, 1, 4, 1); thing(24, 2, 4, 1); tide(4); best(-1)");
        E.due("best(-1)", 2);
        E.due("thing(24, 9, 4, 1); best(-1)", 9);
        E.due("under(1, 0, true); best(-1)", 1);
        E.due("under(1, 0, true); best(-1); under(1, 0, false); best(-1)", 2);
        E.due("tangle(1, true); best(-1)", 1);
        E.due("tangle(1, true); best(-1); tangle(1, false); best(-1)", 2);
        E.due("tide(4); best(-1)", 3);
        E.due("tide(4); tideOf(1)", 1);
        duePlan("calm()", 0, 0);
        duePlan("tangle(1, true)", 1, 4, 0, 0);
        duePlan("tangle(0, true); tangle(1, true)", 0, 0);
        duePlan("tide(4)", 3, 8, 0, 0, 1, 1);
        duePlan("tide(4); best(0); calm(); tide(4)", 2, 4, 1, 0);
        duePlan("tide(4); tideOf(0); calm(); tide(3)", 0, 0);
        duePlan("calm(); tide(9); thing(24, 0, 1, 1)", 3, 8, 0, 0, 1, 0);
        E.due(MAN_OUT + "; work(0, 1); minutes(1); best(-2)", 3);
        E.due(MAN_OUT + "; work(0, 1); minutes(3); best(-2)", 1);
        E.due(MAN_OUT + "; work(0, 1); minutes(4); best(-1)", 1);
    }
}
