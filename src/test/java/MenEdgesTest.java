/** The edges of "2 men" and of promises 11 to 16, a sentence of the document after the other. */
public final class MenEdgesTest {
    private static final Edges E = new Edges();
    private static final String[] NO_MAN = {"-1", "6", "-6", "MIN", "MAX"};
    private static final String[] NO_HOSE = {"-1", "3", "-6", "MIN", "MAX"};
    private static final String[] NO_SQUARE = {"-1", "49", "-6", "MIN", "MAX"};
    private static final String ALL_IN = "go(0, true); go(1, true); go(2, true); go(3, true); go(4, true); go(5, true)";

    public static void main(String[] args) {
        men();
        squares();
        hoses();
        reach();
        twoOnAHose();
        stay();
        stayCounts();
        tillHeGoesIn();
        lacksBeyondStay();
        byNumbers();
        depthZero();
        bellAndMenOut();
        goAnswers();
        goState();
        goNo();
        outAnswers();
        outUnknown();
        outState();
        outFull();
        outNo();
        hose();
        hang();
        man();
        E.finish();
    }

    private static void men() {
        E.sentence("MEN 0 to 5 are ABOARD (0, at first), IN (1) THE BELL, OUT (2).");
        for (int man = 0; man < 6; man++) {
            E.due("man(" + man + ", 0)", 0);
            E.due("go(" + man + ", true); man(" + man + ", 0)", 1);
            E.due("go(" + man + ", true); out(" + man + ", 0, 24); man(" + man + ", 0)", 2);
            E.due("go(" + man + ", true); go(" + man + ", false); man(" + man + ", 0)", 0);
        }
        E.due("go(0, true); man(1, 0)", 0);
        E.due(ALL_IN + "; go(5, false); man(4, 0)", 1);
        E.ahead(ALL_IN + "; thing(24, 1, 1, 1)");
        E.refuses("go(#, true)", Edges.UNKNOWN, NO_MAN);
        E.refuses("go(#, false)", Edges.UNKNOWN, NO_MAN);
        E.refuses("out(#, 0, 24)", Edges.UNKNOWN, NO_MAN);
        E.refuses("man(#, 0)", Edges.UNKNOWN, NO_MAN);
        E.refuses("work(#, 0)", Edges.UNKNOWN, NO_MAN);
        E.refuses("entry(5, #, 2)", Edges.UNKNOWN, NO_MAN);
        E.refuses("log(#, 0)", Edges.UNKNOWN, NO_MAN);
    }

    private static void squares() {
        E.sentence("THE SQUARES of the wreck: 0 to 48");
        E.ahead("hose(0, 12); go(0, true)");
        E.due("hang(48); out(0, 0, 0); man(0, 1)", 0);
        E.due("hang(0); out(0, 0, 48); man(0, 1)", 48);
        E.due("thing(0, 1, 1, 1); ofThing(0, 0)", 0);
        E.due("thing(48, 1, 1, 1); ofThing(0, 0)", 48);
        E.refuses("out(0, 0, #)", Edges.UNKNOWN, NO_SQUARE);
        E.refuses("hang(#)", Edges.UNKNOWN, NO_SQUARE);
        E.refuses("thing(#, 1, 1, 1)", Edges.UNKNOWN, NO_SQUARE);

        E.sentence("THE BELL hangs over one (24 at first).");
        E.due("told(1)", 24);
        E.due("hang(24)", 24);
        E.due("hang(48); told(1)", 48);
    }

    private static void hoses() {
        E.sentence("HOSES 0 to 2 have a LENGTH (1 to 12; 4 at first).");
        E.row("hose(#, 9)", 4, 4, 4);
        E.row("hose(#, 1); hose(#, 12)", 1, 1, 1);
        E.row("hose(#, 12); hose(#, 1)", 12, 12, 12);
        E.due("hose(0, 7); hose(1, 8); hose(2, 9); hose(1, 4)", 8);
        E.row("go(0, true); out(0, #, 24)", 1, 1, 1);
        E.ahead("go(0, true); hose(1, 2)");
        E.refuses("hose(#, 4)", Edges.UNKNOWN, NO_HOSE);
        E.refuses("out(0, #, 24)", Edges.UNKNOWN, NO_HOSE);
        for (int hose = 0; hose < 3; hose++) {
            E.refuses("hose(" + hose + ", #)", Edges.OUTSIDE, "0", "13", "-1", "MIN", "MAX");
        }
    }

    private static void reach() {
        E.sentence("to a SQUARE no farther from THE BELL's (x and y, added) than its LENGTH");
        E.ahead("go(0, true)");
        for (String near : new String[] {"24", "28", "20", "2", "4", "46", "3", "21", "45", "27"}) {
            E.due("out(0, 0, " + near + ")", 1);
        }
        E.refuses("out(0, 0, #)", Edges.NO, "35", "13", "1", "5", "43", "0", "6", "42", "48");
        E.ahead("go(0, true); hose(2, 1)");
        for (String near : new String[] {"24", "23", "25", "17", "31"}) E.due("out(0, 2, " + near + ")", 1);
        E.refuses("out(0, 2, #)", Edges.NO, "16", "18", "30", "32", "22", "26", "10", "38");
        E.ahead("go(0, true); hang(0)");
        E.due("hose(0, 12); out(0, 0, 48)", 1);
        E.due("hose(0, 11); out(0, 0, 48)", Edges.NO);
        E.due("hose(0, 11); out(0, 0, 47)", 1);
        E.due("hose(0, 6); out(0, 0, 6)", 1);
        E.due("hose(0, 5); out(0, 0, 6)", Edges.NO);
        E.due("hose(0, 6); out(0, 0, 42)", 1);
        E.due("hose(0, 5); out(0, 0, 42)", Edges.NO);
        E.ahead("go(0, true); hang(42)");
        E.due("hose(0, 12); out(0, 0, 6)", 1);
        E.due("hose(0, 11); out(0, 0, 6)", Edges.NO);

        E.sentence("0 to 48, 7 y and x: a row of squares does not go on in the next");
        E.ahead("go(0, true); hang(6); hose(0, 1)");
        E.due("out(0, 0, 5)", 1);
        E.due("out(0, 0, 13)", 1);
        E.refuses("out(0, 0, #)", Edges.NO, "7", "0", "48");
        E.ahead("go(0, true); hang(6)");
        E.due("hose(0, 6); out(0, 0, 7)", Edges.NO);
        E.due("hose(0, 7); out(0, 0, 7)", 1);
        E.ahead("go(0, true); hang(7)");
        E.due("hose(0, 6); out(0, 0, 6)", Edges.NO);
        E.due("hose(0, 7); out(0, 0, 6)", 1);
        E.due("hose(0, 1); out(0, 0, 0)", 1);
    }

    private static void twoOnAHose() {
        E.sentence("two MEN may be on one HOSE, not three.");
        E.ahead(ALL_IN);
        for (int hose = 0; hose < 3; hose++) {
            String two = "out(5, " + hose + ", 24); out(0, " + hose + ", 24)";
            E.due(two, 1);
            E.due(two + "; out(3, " + hose + ", 24)", Edges.FULL);
            E.due(two + "; go(5, true); out(3, " + hose + ", 24)", 1);
            E.due(two + "; out(3, " + (hose + 1) % 3 + ", 24)", 1);
        }
        E.due("out(0, 0, 24); out(1, 0, 24); out(2, 1, 24); out(3, 1, 24); out(4, 2, 24); out(5, 2, 24)", 1);
    }

    private static void stay() {
        E.sentence("STAY (1 to 60; 10 at first)");
        E.due("stay(1)", 10);
        E.due("stay(1); stay(60)", 1);
        E.due("stay(60); stay(60)", 60);
        E.refuses("stay(#)", Edges.OUTSIDE, "0", "61", "-1", "MIN", "MAX");
        E.ahead("go(0, true); out(0, 0, 24)");
        E.due("minutes(10)", 0);
        E.due("minutes(11)", 1);
        E.due("stay(1); minutes(1)", 0);
        E.due("stay(1); minutes(2)", 1);
        E.due("stay(60); minutes(60)", 0);
        E.due("stay(60); minutes(61)", 1);
    }

    private static void stayCounts() {
        E.sentence("each MINUTE that a MAN is OUT counts 1, or 2 with two on his HOSE");
        E.ahead(ALL_IN + "; out(0, 0, 24)");
        E.due("man(0, 3)", 0);
        E.due("minutes(1); man(0, 3)", 1);
        E.due("minutes(1); man(1, 3)", 0);
        E.due("out(1, 0, 23); minutes(1); man(0, 3)", 2);
        E.due("out(1, 0, 23); minutes(1); man(1, 3)", 2);
        E.due("out(1, 1, 24); minutes(1); man(0, 3)", 1);
        E.due("out(1, 1, 24); out(2, 1, 24); minutes(1); man(0, 3)", 1);
        E.due("out(1, 1, 24); out(2, 1, 24); minutes(1); man(2, 3)", 2);
        E.due("minutes(3); out(1, 0, 24); minutes(2); man(0, 3)", 7);
        E.due("minutes(3); out(1, 0, 24); minutes(2); man(1, 3)", 4);
        E.due("out(1, 0, 24); minutes(2); go(1, true); minutes(3); man(0, 3)", 7);
        E.due("out(1, 0, 24); minutes(200); man(0, 3)", 400);
    }

    private static void tillHeGoesIn() {
        E.sentence("till he goes IN");
        E.ahead("go(0, true); out(0, 0, 24); minutes(10)");
        E.due("man(0, 3)", 10);
        E.due("out(0, 0, 23); man(0, 3)", 10);
        E.due("out(0, 0, 24); minutes(1)", 1);
        E.due("out(0, 0, 0); man(0, 3)", 10);
        E.due("go(0, true); man(0, 3)", 0);
        E.due("go(0, true); minutes(5); man(0, 3)", 0);
        E.due("go(0, true); out(0, 0, 24); man(0, 3)", 0);
        E.due("go(0, true); out(0, 0, 24); minutes(10)", 0);
        E.due("go(0, true); out(0, 0, 24); minutes(11)", 1);
        E.due("go(0, true); out(0, 1, 24); minutes(2); man(0, 3)", 2);
    }

    private static void lacksBeyondStay() {
        E.sentence("each MINUTE by which it is more than STAY then he LACKS, too (counted apart).");
        E.ahead("stay(4); go(0, true); go(1, true); out(0, 0, 24)");
        E.due("minutes(4); air(12)", 0);
        E.due("minutes(5); air(12)", 1);
        E.due("minutes(5); air(11)", 0);
        E.due("minutes(7)", 3);
        E.due("minutes(7); minutes(1)", 1);
        E.due("out(1, 0, 24); minutes(2)", 0);
        E.due("out(1, 0, 24); minutes(3)", 2);
        E.due("out(1, 0, 24); minutes(4)", 4);
        E.due("minutes(1); out(1, 0, 24); minutes(2)", 1);
        E.due("minutes(5); go(0, true); minutes(9)", 0);
        E.due("minutes(5); go(0, true); out(0, 0, 24); minutes(4); air(12)", 1);
        E.due("minutes(5); stay(5); minutes(1)", 1);
        E.due("minutes(5); stay(6); minutes(1)", 0);
        E.due("minutes(4); stay(1); air(12)", 0);
        E.due("minutes(4); stay(1); minutes(1)", 1);
    }

    private static void byNumbers() {
        E.sentence("In a MINUTE MEN come by numbers: each breathes, then his MINUTE OUT counts, then he works (3).");
        // Thing 1 lies UNDER 0, which man 2 raises in one minute.
        E.ahead(ALL_IN + "; thing(24, 1, 1, 1); thing(24, 1, 9, 1); under(1, 0, true); out(2, 0, 24); work(2, 0)");
        E.due("out(1, 1, 24); work(1, 1); minutes(1); ofThing(1, 4)", 0);
        E.due("out(1, 1, 24); work(1, 1); minutes(2); ofThing(1, 4)", 1);
        E.due("out(3, 1, 24); work(3, 1); minutes(1); ofThing(1, 4)", 1);
        E.due("out(3, 1, 24); work(3, 1); minutes(2); ofThing(1, 4)", 2);
        // Who lacks breath or is beyond STAY works all the same.
        E.ahead("room(100); breath(30); stay(1); thing(24, 1, 9, 1); go(0, true); out(0, 0, 24); work(0, 0)");
        E.due("minutes(8); ofThing(0, 4)", 8);
        E.due("minutes(9); ofThing(0, 5)", 1);
    }

    private static void depthZero() {
        E.sentence("MEN go ABOARD and IN, if THE BELL's DEPTH is 0.");
        E.due("go(0, true)", 0);
        E.due("go(0, true); go(0, false)", 1);
        E.due("depth(1); depth(0); go(0, true)", 0);
        E.due("depth(1); go(0, true)", Edges.STATE);
        E.due("go(0, true); depth(1); go(0, false)", Edges.STATE);
        E.due("go(0, true); depth(90); depth(0); go(0, false)", 1);
        E.due("go(0, true); depth(90); out(0, 0, 24); go(0, true)", 2);
    }

    private static void bellAndMenOut() {
        E.sentence("THE BELL is let down or up only if no MAN is OUT; over another SQUARE only so, too.");
        E.ahead("go(0, true); go(1, true); depth(5); out(1, 2, 24)");
        E.refuses("depth(#)", Edges.STATE, "4", "6", "5");
        E.refuses("hang(#)", Edges.STATE, "23", "24");
        E.due("go(1, true); depth(4)", 0);
        E.due("go(1, true); hang(23)", 24);
        E.due("out(0, 0, 24); go(1, true); hang(23)", Edges.STATE);
    }

    private static void goAnswers() {
        E.sentence("go: A MAN goes IN from ABOARD, or from OUT; ABOARD (in = false) from IN: what he was.");
        E.due("go(5, true)", 0);
        E.due("go(5, true); go(5, false)", 1);
        E.due("go(5, true); out(5, 2, 23); go(5, true)", 2);
        E.due("go(5, true); out(5, 2, 23); go(5, true); man(5, 0)", 1);
        E.due("go(5, true); out(5, 2, 23); go(5, true); man(5, 1)", Edges.NONE);
        E.due("go(5, true); out(5, 2, 23); go(5, true); man(5, 2)", Edges.NONE);
        E.due("go(5, true); out(5, 2, 23); go(5, true); go(5, false)", 1);
    }

    private static void goState() {
        E.sentence("go: STATE: DEPTH is not 0, and he is ABOARD, or would go there");
        for (String deep : new String[] {"1", "90"}) {
            E.ahead("go(1, true); go(2, true); depth(" + deep + "); out(2, 0, 24)");
            E.refuses("go(#, true)", Edges.STATE, "0", "5");
            E.refuses("go(#, false)", Edges.STATE, "0", "5", "1", "2");
            E.refuses("go(#, true)", Edges.UNKNOWN, NO_MAN);
            E.refuses("go(#, false)", Edges.UNKNOWN, NO_MAN);
        }
    }

    private static void goNo() {
        E.sentence("go: NO: he is so already, or OUT and would go ABOARD.");
        E.ahead("go(1, true); go(2, true); out(2, 0, 24)");
        E.refuses("go(#, false)", Edges.NO, "0", "2");
        E.refuses("go(#, true)", Edges.NO, "1");
        E.ahead("go(1, true); depth(1)");
        E.refuses("go(#, true)", Edges.NO, "1");
    }

    private static void outAnswers() {
        E.sentence("out: A MAN goes OUT by a HOSE to a SQUARE, or to another SQUARE, if he is OUT by it: 1.");
        E.ahead("go(0, true); go(1, true); depth(90)");
        E.due("out(0, 0, 24)", 1);
        E.row("out(0, 2, 26); man(0, #)", 2, 26, 2, 0, Edges.NONE);
        E.due("out(0, 2, 26); out(0, 2, 25)", 1);
        E.row("out(0, 2, 26); out(0, 2, 25); man(0, #)", 2, 25, 2, 0, Edges.NONE);
        E.due("out(0, 2, 26); out(0, 2, 26)", 1);
        E.due("out(0, 2, 26); out(1, 2, 26); out(0, 2, 25)", 1);
        E.due("out(0, 2, 26); go(0, true); out(0, 1, 26)", 1);
    }

    private static void outUnknown() {
        E.sentence("out: UNKNOWN: MAN, HOSE, SQUARE");
        E.ahead(ALL_IN + "; go(4, false); out(0, 0, 24); out(1, 0, 24)");
        E.refuses("out(#, 0, 0)", Edges.UNKNOWN, NO_MAN);
        E.refuses("out(4, #, 24)", Edges.UNKNOWN, NO_HOSE);
        E.refuses("out(0, #, 24)", Edges.UNKNOWN, NO_HOSE);
        E.refuses("out(4, 0, #)", Edges.UNKNOWN, NO_SQUARE);
        E.refuses("out(2, 0, #)", Edges.UNKNOWN, NO_SQUARE);
        E.refuses("out(2, 1, #)", Edges.UNKNOWN, NO_SQUARE);
    }

    private static void outState() {
        E.sentence("out: STATE: he is ABOARD, or OUT by another HOSE");
        E.ahead("go(0, true); go(1, true); go(2, true); out(0, 0, 24); out(1, 0, 24); out(2, 1, 24)");
        E.refuses("out(3, #, 24)", Edges.STATE, "0", "1", "2");
        E.refuses("out(3, #, 0)", Edges.STATE, "0", "1", "2");
        E.refuses("out(2, #, 24)", Edges.STATE, "0", "2");
        E.refuses("out(2, #, 0)", Edges.STATE, "0", "2");
        E.refuses("out(0, #, 24)", Edges.STATE, "1", "2");
        E.due("go(2, true); out(2, 2, 24)", 1);
    }

    private static void outFull() {
        E.sentence("out: FULL: two others are on it");
        E.ahead("go(0, true); go(1, true); go(2, true); out(0, 0, 24); out(1, 0, 23)");
        E.refuses("out(2, 0, #)", Edges.FULL, "24", "23", "0", "48");
        E.due("out(0, 0, 23)", 1);
        E.due("out(1, 0, 24)", 1);
        E.due("go(0, true); out(2, 0, 24)", 1);
        E.due("go(0, true); out(2, 0, 24); out(0, 0, 24)", Edges.FULL);
    }

    private static void outNo() {
        E.sentence("out: NO: it is too far.");
        E.ahead("go(0, true); go(1, true); out(1, 1, 24)");
        E.refuses("out(0, 0, #)", Edges.NO, "0", "5", "48");
        E.refuses("out(1, 1, #)", Edges.NO, "0", "5", "48");
        E.due("out(1, 1, 0); man(1, 1)", 24);
        E.due("go(1, true); hang(0); out(1, 1, 0)", 1);
        E.due("go(1, true); hang(0); out(1, 1, 24)", Edges.NO);
    }

    private static void hose() {
        E.sentence("hose: LENGTH of a HOSE: which it was. UNKNOWN; OUTSIDE; STATE: a MAN is on it.");
        E.due("hose(0, 9); hose(0, 9)", 9);
        E.due("hose(0, 9); hose(0, 0); hose(0, 13); hose(0, 1)", 9);
        for (int hose = 0; hose < 3; hose++) {
            E.ahead("go(5, true); out(5, " + hose + ", 24)");
            E.refuses("hose(" + hose + ", #)", Edges.STATE, "1", "4", "12");
            E.refuses("hose(" + hose + ", #)", Edges.OUTSIDE, "0", "13");
            E.due("hose(" + (hose + 1) % 3 + ", 1)", 4);
            E.due("go(5, true); hose(" + hose + ", 1)", 4);
        }
        E.ahead("go(4, true); go(5, true); out(4, 1, 24); out(5, 1, 24)");
        E.due("go(4, true); hose(1, 1)", Edges.STATE);
        E.due("go(4, true); go(5, true); hose(1, 1)", 4);
        E.refuses("hose(#, 0)", Edges.UNKNOWN, NO_HOSE);
        E.refuses("hose(#, 13)", Edges.UNKNOWN, NO_HOSE);
    }

    private static void hang() {
        E.sentence("hang: THE BELL over a SQUARE: over which it was. UNKNOWN; STATE: a MAN is OUT.");
        E.due("hang(0)", 24);
        E.due("hang(0); hang(48)", 0);
        E.due("hang(48); hang(48)", 48);
        E.due("hang(0); hang(49); hang(-1); told(1)", 0);
        E.due("go(0, true); depth(90); hang(7)", 24);
        for (int man = 0; man < 6; man++) {
            E.ahead("go(" + man + ", true); out(" + man + ", 2, 23)");
            E.refuses("hang(#)", Edges.STATE, "0", "23", "24", "48");
            E.refuses("hang(#)", Edges.UNKNOWN, NO_SQUARE);
        }
    }

    private static void man() {
        E.sentence("man: Of a MAN: 0 where he is .. 4 THING told to him (NONE). UNKNOWN; OUTSIDE.");
        E.ahead("thing(9, 1, 1, 1); thing(9, 1, 1, 1); go(2, true); work(2, 1); work(4, 0); hose(1, 12);"
            + "out(2, 1, 0); minutes(3)");
        int[] due = {2, 0, 1, 3, 1};
        for (int what = 0; what < 5; what++) E.keeps("man(2, " + what + ")", due[what]);
        E.row("man(4, #)", 0, Edges.NONE, Edges.NONE, 0, 0);
        E.row("go(2, true); man(2, #)", 1, Edges.NONE, Edges.NONE, 0, 1);
        E.row("go(2, true); go(2, false); man(2, #)", 0, Edges.NONE, Edges.NONE, 0, 1);
        for (int man = 0; man < 6; man++) {
            E.refuses("man(" + man + ", #)", Edges.OUTSIDE, "-1", "5", "MIN", "MAX");
        }
        E.refuses("man(#, 5)", Edges.UNKNOWN, NO_MAN);
        E.refuses("man(#, -1)", Edges.UNKNOWN, NO_MAN);
    }
}
