/** The edges of "4 signals" and of promises 26 to 31, a sentence of the document after the other. */
public final class SignalEdgesTest {
    private static final Edges E = new Edges();
    private static final String[] NO_SIGN = {"-1", "12", "-6", "MIN", "MAX"};
    private static final String[] NO_HEARING = {"-1", "8", "MIN", "MAX"};
    private static final String CORNERS = "sign(0, 1, 1); sign(3, 1, 6); sign(7, 6, 1); sign(11, 6, 6)";

    public static void main(String[] args) {
        signs();
        noTugs();
        signNo();
        apart();
        heardJust();
        heardOneApart();
        heardRange();
        rowOfHearings();
        rowTells();
        rowTies();
        rowIsEmptyThen();
        tight();
        tightNone();
        freeTugs();
        freeRange();
        freeNone();
        E.finish();
    }

    private static void signs() {
        E.sentence("SIGNS 0 to 11: TUGS a, then b (1 to 6 both)");
        for (int sign = 0; sign < 12; sign++) {
            E.due("sign(" + sign + ", 3, 4)", 1);
            E.due("sign(" + sign + ", 3, 4); heard(3, 4)", sign);
        }
        E.due("sign(0, 1, 1); heard(1, 1)", 0);
        E.due("sign(0, 6, 6); heard(6, 6)", 0);
        E.due("sign(0, 1, 6); heard(1, 6)", 0);
        E.due("sign(0, 1, 6); heard(6, 1)", Edges.NONE);
        E.ahead(CORNERS + "; hear(1, 1)");
        E.refuses("sign(#, 3, 3)", Edges.UNKNOWN, NO_SIGN);
        E.refuses("sign(#, 0, 0)", Edges.UNKNOWN, NO_SIGN);
        E.refuses("sign(#, 7, 7)", Edges.UNKNOWN, NO_SIGN);
        E.refuses("sign(#, 1, 1)", Edges.UNKNOWN, NO_SIGN);
        E.refuses("sign(0, #, 3)", Edges.OUTSIDE, "0", "7", "-1", "MIN", "MAX");
        E.refuses("sign(0, 3, #)", Edges.OUTSIDE, "0", "7", "-1", "MIN", "MAX");
        E.refuses("sign(5, #, #)", Edges.OUTSIDE, "7", "-1", "MIN", "MAX");
    }

    private static void noTugs() {
        E.sentence("or none (at first). .. sign: TUGS of a SIGN (0, 0: none): 1.");
        E.due("told(6)", 0);
        E.keeps("sign(4, 0, 0)", 1);
        E.due("sign(4, 2, 2); sign(4, 0, 0)", 1);
        E.due("sign(4, 2, 2); sign(4, 0, 0); told(6)", 0);
        E.due("sign(4, 2, 2); sign(4, 0, 0); heard(2, 2)", Edges.NONE);
        E.due("sign(4, 2, 2); sign(4, 0, 0); heard(0, 0)", Edges.NONE);
        E.due("sign(4, 0, 0); sign(5, 0, 0)", 1);
        E.due("sign(4, 0, 0); heard(0, 1)", Edges.NONE);
        E.due("sign(4, 0, 0); hear(0, 0); tell()", Edges.NONE);
        E.due("sign(4, 0, 0); free(1)", 11);
        E.ahead("sign(4, 2, 2)");
        E.refuses("sign(4, 0, #)", Edges.OUTSIDE, "1", "6", "7", "-1");
        E.refuses("sign(4, #, 0)", Edges.OUTSIDE, "1", "6", "7", "-1");
        E.due("sign(4, 5, 5); heard(2, 2)", Edges.NONE);
        E.due("sign(4, 5, 5); heard(5, 5)", 4);
        E.due("sign(4, 5, 5); told(6)", 1);
        E.due("sign(0, 1, 1); sign(1, 1, 2); sign(2, 1, 3); sign(3, 1, 4); sign(5, 1, 5); sign(6, 1, 6); sign(7, 2, 1);"
            + "sign(8, 2, 3); sign(9, 2, 4); sign(10, 2, 5); sign(11, 2, 6); told(6)", 12);
    }

    private static void signNo() {
        E.sentence("sign: NO: another SIGN has these.");
        E.ahead("sign(4, 2, 3)");
        E.refuses("sign(#, 2, 3)", Edges.NO, "0", "3", "5", "11");
        E.keeps("sign(4, 2, 3)", 1);
        E.due("sign(5, 3, 2)", 1);
        E.due("sign(5, 2, 4)", 1);
        E.due("sign(4, 1, 1); sign(5, 2, 3)", 1);
        E.due("sign(4, 0, 0); sign(5, 2, 3)", 1);
        E.due("sign(4, 0, 0); sign(5, 2, 3); sign(4, 2, 3)", Edges.NO);
        E.ahead("sign(4, 2, 3); sign(5, 1, 1)");
        E.keeps("sign(5, 2, 3)", Edges.NO);
        E.keeps("sign(4, 1, 1)", Edges.NO);
    }

    private static void apart() {
        E.sentence("APART are two by what a and what b differ, added.");
        E.due("sign(0, 1, 1); sign(1, 6, 6); tight()", 10);
        E.due("sign(0, 1, 6); sign(1, 6, 1); tight()", 10);
        E.due("sign(0, 1, 1); sign(1, 1, 6); tight()", 5);
        E.due("sign(0, 6, 1); sign(1, 1, 1); tight()", 5);
        E.due("sign(0, 3, 3); sign(1, 4, 2); tight()", 2);
        E.due("sign(0, 3, 3); sign(1, 3, 4); tight()", 1);
    }

    private static void heardJust() {
        E.sentence("HEARD a, b (0 to 7): just a SIGN");
        E.ahead("sign(9, 3, 3); sign(0, 3, 2); sign(1, 3, 4); sign(2, 2, 3); sign(3, 4, 3)");
        E.keeps("heard(3, 3)", 9);
        E.keeps("heard(3, 2)", 0);
        E.ahead(CORNERS);
        E.due("heard(1, 1)", 0);
        E.due("heard(1, 6)", 3);
        E.due("heard(6, 1)", 7);
        E.due("heard(6, 6)", 11);
    }

    private static void heardOneApart() {
        E.sentence("else the one SIGN that is 1 APART; else NONE.");
        E.ahead(CORNERS);
        E.keeps("heard(0, 1)", 0);
        E.keeps("heard(1, 0)", 0);
        E.due("heard(2, 1)", 0);
        E.due("heard(1, 2)", 0);
        E.due("heard(0, 6)", 3);
        E.due("heard(1, 7)", 3);
        E.due("heard(7, 1)", 7);
        E.due("heard(6, 0)", 7);
        E.keeps("heard(7, 6)", 11);
        E.keeps("heard(6, 7)", 11);
        E.refuses("heard(#, #)", Edges.NONE, "0", "7", "2", "5", "3");
        E.due("heard(0, 7)", Edges.NONE);
        E.due("heard(7, 0)", Edges.NONE);
        E.due("heard(3, 1)", Edges.NONE);
        E.due("heard(0, 2)", Edges.NONE);
        E.ahead("sign(2, 3, 2); sign(8, 3, 4)");
        E.keeps("heard(3, 3)", Edges.NONE);
        E.due("heard(3, 1)", 2);
        E.due("heard(3, 5)", 8);
        E.due("sign(8, 0, 0); heard(3, 3)", 2);
        E.due("sign(2, 0, 0); heard(3, 3)", 8);
        E.due("sign(5, 2, 3); sign(6, 4, 3); heard(3, 3)", Edges.NONE);
        E.due("sign(5, 2, 3); sign(2, 0, 0); heard(3, 3)", Edges.NONE);
    }

    private static void heardRange() {
        E.sentence("heard: OUTSIDE.");
        E.due("heard(0, 0)", Edges.NONE);
        E.due("heard(7, 7)", Edges.NONE);
        E.ahead(CORNERS);
        E.refuses("heard(#, 1)", Edges.OUTSIDE, NO_HEARING);
        E.refuses("heard(1, #)", Edges.OUTSIDE, NO_HEARING);
        E.refuses("heard(#, #)", Edges.OUTSIDE, NO_HEARING);
    }

    private static void rowOfHearings() {
        E.sentence("hear: One more hearing of a row: how many. OUTSIDE; FULL: 4.");
        E.due("hear(0, 0)", 1);
        E.due("hear(7, 7)", 1);
        E.due("hear(0, 7); hear(7, 0)", 2);
        E.due("3 * hear(1, 1)", 3);
        E.due("4 * hear(1, 1)", 4);
        E.due("4 * hear(1, 1); told(8)", 4);
        E.due("3 * hear(1, 1); hear(8, 1); hear(1, -1); hear(1, 1)", 4);
        E.ahead(CORNERS + "; 2 * hear(1, 1)");
        E.refuses("hear(#, 1)", Edges.OUTSIDE, NO_HEARING);
        E.refuses("hear(1, #)", Edges.OUTSIDE, NO_HEARING);
        E.ahead(CORNERS + "; 4 * hear(1, 1)");
        E.refuses("hear(#, #)", Edges.FULL, "0", "1", "6", "7");
        E.refuses("hear(#, 1)", Edges.OUTSIDE, NO_HEARING);
        E.refuses("hear(1, #)", Edges.OUTSIDE, NO_HEARING);
    }

    private static void rowTells() {
        E.sentence("HEARD so often (a row of up to 4 hearings): the SIGN with the least sum of APARTS");
        E.ahead(CORNERS);
        E.due("hear(1, 1); tell()", 0);
        E.due("hear(3, 3); tell()", 0);
        E.due("hear(4, 4); tell()", 11);
        E.due("hear(0, 0); tell()", 0);
        E.due("hear(7, 0); tell()", 7);
        E.due("4 * hear(7, 7); tell()", 11);
        E.due("hear(1, 1); hear(1, 1); hear(1, 6); tell()", 0);
        E.due("hear(1, 1); hear(1, 6); hear(1, 6); tell()", 3);
        E.due("hear(3, 1); hear(3, 1); hear(4, 1); hear(3, 6); tell()", 0);
        E.due("hear(3, 1); hear(3, 1); hear(5, 1); hear(3, 6); tell()", Edges.NONE);
        E.due("hear(3, 1); hear(4, 1); hear(4, 1); hear(3, 1); hear(6, 1); tell()", Edges.NONE);
        E.ahead("sign(5, 1, 1)");
        E.due("hear(7, 7); tell()", 5);
        E.due("4 * hear(7, 7); tell()", 5);
        E.ahead("sign(5, 6, 6); sign(6, 1, 2)");
        E.due("4 * hear(0, 0); tell()", 6);
        E.due("3 * hear(0, 0); hear(7, 7); tell()", 6);
        E.due("hear(0, 0); 3 * hear(7, 7); tell()", 5);
    }

    private static void rowTies() {
        E.sentence("NONE, if two have that.");
        E.ahead("sign(0, 1, 1); sign(1, 1, 3)");
        E.due("hear(1, 2); tell()", Edges.NONE);
        E.due("hear(1, 1); hear(1, 3); tell()", Edges.NONE);
        E.due("hear(1, 1); hear(1, 3); hear(1, 3); tell()", 1);
        E.due("sign(2, 1, 2); hear(1, 1); hear(1, 3); tell()", Edges.NONE);
        E.due("sign(2, 2, 2); hear(2, 2); tell()", 2);
        E.ahead("sign(0, 1, 1); sign(1, 1, 3); sign(11, 6, 6)");
        // Two have the same sum, but a third one less.
        E.due("hear(6, 2); tell()", 11);
        E.due("hear(1, 2); tell()", Edges.NONE);
        E.due("sign(0, 6, 6); sign(11, 0, 0); sign(0, 6, 5); sign(2, 6, 3); hear(6, 4); tell()", Edges.NONE);
    }

    private static void rowIsEmptyThen() {
        E.sentence("tell: What the row tells; it is empty then: the SIGN; NONE (also: no hearing).");
        E.keeps("tell()", Edges.NONE);
        E.ahead("sign(5, 1, 1)");
        E.keeps("tell()", Edges.NONE);
        E.due("hear(1, 1); tell(); tell()", Edges.NONE);
        E.ahead(CORNERS);
        E.keeps("tell()", Edges.NONE);
        E.due("hear(1, 1); tell(); told(8)", 0);
        E.due("hear(1, 1); tell(); tell()", Edges.NONE);
        E.due("4 * hear(1, 1); tell(); hear(6, 6)", 1);
        E.due("4 * hear(1, 1); tell(); hear(6, 6); tell()", 11);
        E.due("4 * hear(1, 1); tell(); 4 * hear(6, 6)", 4);
        E.due("4 * hear(1, 1); tell(); 5 * hear(6, 6)", Edges.FULL);
        E.ahead("");
        E.due("hear(1, 1); tell()", Edges.NONE);
        E.due("hear(1, 1); tell(); told(8)", 0);
        E.due("hear(1, 1); sign(3, 1, 1); tell()", 3);
        E.ahead("sign(0, 1, 1); sign(1, 1, 3); hear(1, 2); tell()");
        E.due("told(8)", 0);
    }

    private static void tight() {
        E.sentence("TIGHT: the least APART of any two SIGNS.");
        E.ahead(CORNERS);
        E.keeps("tight()", 5);
        E.due("sign(4, 3, 3); tight()", 4);
        E.due("sign(4, 6, 5); tight()", 1);
        E.due("sign(0, 0, 0); tight()", 5);
        E.due("sign(0, 0, 0); sign(11, 0, 0); tight()", 10);
        E.due("sign(10, 1, 2); tight()", 1);
        E.due("sign(10, 1, 2); sign(10, 0, 0); tight()", 5);
        E.due("sign(0, 0, 0); sign(3, 0, 0); sign(7, 4, 4); tight()", 4);
    }

    private static void tightNone() {
        E.sentence("tight: NONE: there are fewer than two SIGNS.");
        E.keeps("tight()", Edges.NONE);
        for (String sign : new String[] {"0", "5", "11"}) {
            E.ahead("sign(" + sign + ", 3, 3)");
            E.keeps("tight()", Edges.NONE);
        }
        E.ahead("sign(0, 1, 1); sign(11, 1, 2)");
        E.keeps("tight()", 1);
        E.due("sign(0, 0, 0); tight()", Edges.NONE);
        E.due("sign(11, 0, 0); tight()", Edges.NONE);
    }

    private static void freeTugs() {
        E.sentence("FREE TUGS: the first a, b (by a, then b) that are d APART or more from all SIGNS.");
        for (int d = 1; d <= 10; d++) E.due("free(" + d + ")", 11);
        E.ahead("sign(0, 1, 1)");
        E.keeps("free(1)", 12);
        int[] due = {12, 13, 14, 15, 16, 26, 36, 46, 56, 66};
        for (int d = 1; d <= 10; d++) E.keeps("free(" + d + ")", due[d - 1]);
        E.ahead("sign(3, 6, 6)");
        for (int d = 1; d <= 10; d++) E.due("free(" + d + ")", 11);
        E.ahead("sign(3, 1, 6)");
        E.due("free(5)", 11);
        E.due("free(6)", 21);
        E.due("free(10)", 61);
        E.ahead(CORNERS);
        E.due("free(1)", 12);
        E.due("free(2)", 13);
        E.due("free(3)", 23);
        E.due("free(4)", 33);
        E.due("sign(0, 0, 0); free(5)", 11);
        E.ahead("sign(0, 1, 1); sign(1, 1, 2); sign(2, 1, 3); sign(3, 1, 4); sign(4, 1, 5); sign(5, 1, 6); sign(6, 2, 1);"
            + "sign(7, 2, 2); sign(8, 2, 3); sign(9, 2, 4); sign(10, 2, 5)");
        E.due("free(1)", 26);
        E.due("sign(11, 2, 6); free(1)", 31);
        E.due("sign(11, 2, 6); free(2)", 41);
        E.due("sign(11, 2, 6); free(4)", 61);
        E.due("sign(11, 2, 6); free(5)", Edges.NONE);
    }

    private static void freeRange() {
        E.sentence("free: FREE TUGS for d (1 to 10): 10 a and b");
        E.ahead(CORNERS);
        E.refuses("free(#)", Edges.OUTSIDE, "0", "11", "-1", "MIN", "MAX");
        E.ahead("");
        E.refuses("free(#)", Edges.OUTSIDE, "0", "11");
        E.due("free(1)", 11);
        E.due("free(10)", 11);
    }

    private static void freeNone() {
        E.sentence("free: .. NONE.");
        E.ahead(CORNERS);
        E.refuses("free(#)", Edges.NONE, "5", "6", "10");
        E.ahead("sign(0, 1, 1); sign(1, 6, 6)");
        E.due("free(5)", 16);
        E.refuses("free(#)", Edges.NONE, "6", "10");
        E.ahead("sign(0, 3, 3)");
        E.due("free(6)", 66);
        E.refuses("free(#)", Edges.NONE, "7", "10");
    }
}
