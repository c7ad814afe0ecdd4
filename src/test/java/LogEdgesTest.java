/** The edges of "5 the log" and of promises 32 to 34, a sentence of the document after the other. */
public final class LogEdgesTest {
    private static final Edges E = new Edges();
    private static final String[] NO_MAN = {"-1", "6", "-6", "MIN", "MAX"};

    public static void main(String[] args) {
        forty();
        ranges();
        inOrder();
        oneOfAMinute();
        refusalsOfEntry();
        noEntries();
        sureByEntry();
        sureBetween();
        dark();
        neither();
        othersEntries();
        longestSure();
        longestMaybe();
        verdict();
        logRange();
        told();
        E.finish();
    }

    /** entries, longest sure, longest maybe, verdict, sure, dark */
    private static void dueLog(String calls, int... want) {
        E.row(calls + "; log(0, #)", want);
    }

    /** 40 entries from the minute on, by six men in turns. */
    private static String fortyFrom(int minute) {
        StringBuilder calls = new StringBuilder();
        for (int i = 0; i < 40; i++) {
            calls.append("entry(").append(minute + i / 6).append(", ").append(i % 6).append(", 2); ");
        }
        return calls.toString();
    }

    private static void forty() {
        E.sentence("THE LOG: ENTRIES, 40 at most");
        E.due("entry(0, 0, 0)", 0);
        E.due("entry(0, 0, 0); entry(0, 1, 0)", 1);
        E.due(fortyFrom(3), 39);
        E.due(fortyFrom(3) + "told(7)", 40);
        E.due(fortyFrom(3) + "log(0, 0)", 7);
        E.due(fortyFrom(3) + "log(3, 0)", 7);
        E.due(fortyFrom(3) + "log(4, 0)", 6);
        E.ahead(fortyFrom(3));
        E.refuses("entry(#, 5, 2)", Edges.FULL, "9", "10", "1000");
    }

    private static void ranges() {
        E.sentence("in order of MINUTES (0 to 1000)");
        E.due("entry(0, 0, 2); log(0, 4)", 1);
        E.due("entry(1000, 0, 2); log(0, 4)", 1);
        E.due("entry(0, 0, 2); entry(1000, 0, 2); log(0, 4)", 1001);
        E.ahead("entry(0, 0, 2)");
        E.refuses("entry(#, 0, 2)", Edges.OUTSIDE, "-1", "1001", "MIN", "MAX");

        E.sentence("a MAN was seen OUT (2), IN (1), ABOARD (0).");
        E.due("entry(5, 0, 0); log(0, 4)", 0);
        E.due("entry(5, 0, 1); log(0, 4)", 0);
        E.due("entry(5, 0, 2); log(0, 4)", 1);
        E.due("entry(5, 0, 0); log(0, 0)", 1);
        E.refuses("entry(5, 0, #)", Edges.OUTSIDE, "-1", "3", "MIN", "MAX");
    }

    private static void inOrder() {
        E.sentence("entry: NO: one ahead has a later MINUTE");
        E.ahead("entry(5, 0, 2); entry(9, 1, 2)");
        E.refuses("entry(#, 2, 2)", Edges.NO, "0", "4", "5", "6", "8");
        E.refuses("entry(#, 0, 2)", Edges.NO, "0", "6", "8");
        E.due("entry(9, 2, 2)", 2);
        E.due("entry(9, 0, 2)", 2);
        E.due("entry(10, 1, 2)", 2);
        E.due("entry(8, 2, 2); entry(9, 2, 2)", 2);
        E.ahead("entry(1000, 0, 2)");
        E.refuses("entry(#, 1, 2)", Edges.NO, "999", "0");
        E.due("entry(1000, 1, 2)", 1);
    }

    private static void oneOfAMinute() {
        E.sentence("entry: NO: .. or this MAN has one of this MINUTE.");
        E.ahead("entry(5, 0, 2); entry(5, 3, 1)");
        E.refuses("entry(5, 0, #)", Edges.NO, "0", "1", "2");
        E.refuses("entry(5, 3, #)", Edges.NO, "0", "1", "2");
        E.due("entry(5, 1, 2)", 2);
        E.due("entry(6, 0, 2)", 2);
        E.due("entry(5, 1, 2); entry(5, 2, 2); entry(5, 4, 2); entry(5, 5, 2)", 5);
        E.due("entry(5, 1, 2); entry(5, 2, 2); entry(5, 4, 2); entry(5, 5, 2); entry(5, 0, 2)", Edges.NO);
    }

    private static void refusalsOfEntry() {
        E.sentence("entry: An ENTRY: its number. UNKNOWN: the MAN; OUTSIDE; FULL; NO");
        E.ahead("entry(5, 0, 2)");
        E.refuses("entry(5, #, 2)", Edges.UNKNOWN, NO_MAN);
        E.refuses("entry(1001, #, 3)", Edges.UNKNOWN, NO_MAN);
        E.refuses("entry(4, #, 2)", Edges.UNKNOWN, NO_MAN);
        E.refuses("entry(4, 0, #)", Edges.OUTSIDE, "3", "-1");
        E.refuses("entry(5, 0, #)", Edges.OUTSIDE, "3", "-1");
        E.refuses("entry(#, 0, 2)", Edges.OUTSIDE, "-1", "1001");
        E.ahead(fortyFrom(3));
        E.refuses("entry(20, #, 2)", Edges.UNKNOWN, NO_MAN);
        E.refuses("entry(#, 0, 2)", Edges.OUTSIDE, "-1", "1001");
        E.refuses("entry(20, 0, #)", Edges.OUTSIDE, "-1", "3");
        E.refuses("entry(#, 0, 2)", Edges.FULL, "0", "8", "9", "10");
    }

    private static void noEntries() {
        E.sentence("log of a MAN without ENTRIES");
        dueLog("stay(1)", 0, 0, 0, 0, 0, 0);
        dueLog("entry(0, 1, 2); entry(1000, 1, 2)", 0, 0, 0, 0, 0, 0);
    }

    private static void sureByEntry() {
        E.sentence("A MINUTE is SURE for a MAN, if an ENTRY tells him OUT then");
        dueLog("entry(5, 0, 2)", 1, 1, 1, 0, 1, 0);
        dueLog("entry(5, 0, 1)", 1, 0, 0, 0, 0, 0);
        dueLog("entry(5, 0, 0)", 1, 0, 0, 0, 0, 0);
        dueLog("entry(4, 0, 1); entry(5, 0, 2); entry(6, 0, 1)", 3, 1, 1, 0, 1, 0);
        dueLog("entry(5, 0, 2); entry(6, 0, 2)", 2, 2, 2, 0, 2, 0);
    }

    private static void sureBetween() {
        E.sentence("or if it has none of his and the next of his ahead and behind both tell him OUT");
        dueLog("entry(5, 0, 2); entry(7, 0, 2)", 2, 3, 3, 0, 3, 0);
        dueLog("entry(0, 0, 2); entry(1000, 0, 2)", 2, 1001, 1001, 2, 1001, 0);
        dueLog("entry(5, 0, 2); entry(7, 0, 1); entry(9, 0, 2)", 3, 1, 2, 0, 2, 2);
        dueLog("entry(5, 0, 2); entry(6, 0, 1); entry(7, 0, 2)", 3, 1, 1, 0, 2, 0);
        dueLog("entry(5, 0, 2); entry(6, 1, 1); entry(7, 0, 2)", 2, 3, 3, 0, 3, 0);
    }

    private static void dark() {
        E.sentence("it is DARK, if it has none of his, and lies between two of his that do not both tell him OUT.");
        dueLog("entry(5, 0, 2); entry(7, 0, 1)", 2, 1, 2, 0, 1, 1);
        dueLog("entry(5, 0, 2); entry(7, 0, 0)", 2, 1, 2, 0, 1, 1);
        dueLog("entry(5, 0, 1); entry(7, 0, 2)", 2, 1, 2, 0, 1, 1);
        dueLog("entry(5, 0, 1); entry(7, 0, 1)", 2, 0, 1, 0, 0, 1);
        dueLog("entry(5, 0, 0); entry(7, 0, 0)", 2, 0, 1, 0, 0, 1);
        dueLog("entry(5, 0, 0); entry(7, 0, 1)", 2, 0, 1, 0, 0, 1);
        dueLog("entry(5, 0, 1); entry(6, 0, 1)", 2, 0, 0, 0, 0, 0);
        dueLog("entry(0, 0, 0); entry(1000, 0, 0)", 2, 0, 999, 1, 0, 999);
        dueLog("entry(0, 0, 2); entry(1000, 0, 1)", 2, 1, 1000, 1, 1, 999);
    }

    private static void neither() {
        E.sentence("a MINUTE ahead of his first ENTRY or behind his last is neither SURE nor DARK");
        dueLog("entry(500, 0, 2)", 1, 1, 1, 0, 1, 0);
        dueLog("entry(500, 0, 1); entry(501, 0, 1)", 2, 0, 0, 0, 0, 0);
        dueLog("entry(500, 0, 2); entry(502, 0, 2)", 2, 3, 3, 0, 3, 0);
    }

    private static void othersEntries() {
        E.sentence("it has none of his: ENTRIES of other MEN do not count");
        dueLog("entry(1, 1, 2); entry(5, 0, 2); entry(6, 1, 0); entry(7, 2, 2); entry(8, 0, 2); entry(9, 1, 2)",
            2, 4, 4, 0, 4, 0);
        dueLog("entry(5, 0, 2); entry(5, 1, 0); entry(6, 0, 2); entry(6, 1, 0)", 2, 2, 2, 0, 2, 0);
        dueLog("entry(5, 1, 2); entry(5, 0, 1); entry(7, 1, 2); entry(7, 0, 1)", 2, 0, 1, 0, 0, 1);
    }

    private static void longestSure() {
        E.sentence("LONGEST SURE: the longest row of SURE MINUTES, one behind the other");
        dueLog("entry(0, 0, 2); entry(3, 0, 2); entry(4, 0, 1); entry(5, 0, 2); entry(7, 0, 2)", 5, 4, 4, 0, 7, 0);
        dueLog("entry(0, 0, 2); entry(2, 0, 2); entry(3, 0, 1); entry(4, 0, 2); entry(7, 0, 2)", 5, 4, 4, 0, 7, 0);
        dueLog("entry(0, 0, 2); entry(2, 0, 2); entry(4, 0, 1); entry(5, 0, 2); entry(6, 0, 2)", 5, 3, 4, 0, 5, 1);
        dueLog("entry(0, 0, 2); entry(1, 0, 2); entry(5, 0, 2); entry(6, 0, 2)", 4, 7, 7, 0, 7, 0);
    }

    private static void longestMaybe() {
        E.sentence("LONGEST MAYBE: of SURE and DARK ones together.");
        dueLog("entry(0, 0, 1); entry(3, 0, 2); entry(6, 0, 1)", 3, 1, 5, 0, 1, 4);
        dueLog("entry(0, 0, 1); entry(3, 0, 1); entry(6, 0, 1)", 3, 0, 2, 0, 0, 4);
        dueLog("entry(0, 0, 1); entry(3, 0, 2); entry(4, 0, 2); entry(7, 0, 0); entry(9, 0, 2)", 5, 2, 6, 0, 3, 5);
        dueLog("entry(0, 0, 1); entry(2, 0, 2); entry(3, 0, 0); entry(9, 0, 2); entry(12, 0, 0)", 5, 1, 8, 0, 2, 8);
    }

    private static void verdict() {
        E.sentence("VERDICT: 2, if LONGEST SURE is more than STAY; 1, if LONGEST MAYBE is; else 0.");
        E.ahead("entry(1, 0, 2); entry(10, 0, 2)");
        E.due("log(0, 3)", 0);
        E.due("entry(11, 0, 2); log(0, 3)", 2);
        E.due("entry(11, 0, 1); log(0, 3)", 0);
        E.due("entry(12, 0, 1); log(0, 3)", 1);
        E.due("stay(9); log(0, 3)", 2);
        E.due("stay(11); entry(12, 0, 1); log(0, 3)", 0);
        E.due("stay(10); entry(12, 0, 1); log(0, 3)", 1);
        E.due("stay(9); entry(12, 0, 1); log(0, 3)", 2);
        E.ahead("entry(1, 0, 2)");
        E.due("stay(1); log(0, 3)", 0);
        E.due("stay(1); entry(2, 0, 2); log(0, 3)", 2);
        E.due("stay(1); entry(3, 0, 1); log(0, 3)", 1);
        E.due("stay(60); entry(60, 0, 2); log(0, 3)", 0);
        E.due("stay(60); entry(61, 0, 2); log(0, 3)", 2);
        E.due("stay(60); entry(61, 0, 1); log(0, 3)", 0);
        E.due("stay(60); entry(62, 0, 1); log(0, 3)", 1);
    }

    private static void logRange() {
        E.sentence("log: Of a MAN in THE LOG: 0 ENTRIES .. 5 DARK ones. UNKNOWN; OUTSIDE.");
        E.ahead("entry(1, 0, 2); entry(4, 0, 1); entry(5, 5, 2)");
        int[] due = {2, 1, 3, 0, 1, 2};
        for (int what = 0; what < 6; what++) E.keeps("log(0, " + what + ")", due[what]);
        E.row("log(5, #)", 1, 1, 1, 0, 1, 0);
        for (int man = 0; man < 6; man++) {
            E.refuses("log(" + man + ", #)", Edges.OUTSIDE, "-1", "6", "MIN", "MAX");
        }
        E.refuses("log(#, 0)", Edges.UNKNOWN, NO_MAN);
        E.refuses("log(#, 6)", Edges.UNKNOWN, NO_MAN);
        E.refuses("log(#, -1)", Edges.UNKNOWN, NO_MAN);

        E.sentence("log: Of a MAN: what was asked ahead, of him or another, is no matter");
        E.ahead("entry(1, 0, 2); entry(3, 0, 2); entry(6, 0, 1); entry(8, 0, 2); entry(9, 5, 2); entry(9, 0, 2)");
        E.row("log(0, #)", 5, 3, 5, 0, 5, 3);
        E.row("log(0, #); log(0, #)", 5, 3, 5, 0, 5, 3);
        E.row("log(0, #); log(5, #)", 1, 1, 1, 0, 1, 0);
        E.row("log(5, #); log(0, #)", 5, 3, 5, 0, 5, 3);
        E.row("log(0, #); log(3, #)", 0, 0, 0, 0, 0, 0);
        E.row("log(0, 1); entry(11, 0, 2); log(0, #)", 6, 4, 5, 0, 7, 3);
    }

    private static void told() {
        E.sentence("told: 0 MINUTE (all that went) .. 9 WORTH of all that is RAISED. OUTSIDE.");
        E.ahead("hang(48); thing(48, 1000, 1, 1); thing(48, 7, 9, 1); go(0, true); depth(90); out(0, 0, 48); work(0, 0);"
            + "minutes(200); minutes(3); 4 * tide(1); sign(11, 6, 6); sign(2, 1, 1); entry(0, 5, 0); entry(1, 5, 0);"
            + "3 * hear(0, 0)");
        int[] due = {203, 48, 90, 2, 1, 4, 2, 2, 3, 1000};
        for (int what = 0; what < 10; what++) E.keeps("told(" + what + ")", due[what]);
        E.refuses("told(#)", Edges.OUTSIDE, "-1", "10", "MIN", "MAX");
        E.ahead("");
        E.refuses("told(#)", Edges.OUTSIDE, "-1", "10");
        StringBuilder raiseAll = new StringBuilder("12 * thing(24, 1000, 1, 0); go(0, true); out(0, 0, 24)");
        for (int thing = 0; thing < 12; thing++) raiseAll.append("; work(0, ").append(thing).append("); minutes(1)");
        E.ahead(raiseAll.toString());
        E.due("told(4)", 4095);
        E.due("told(9)", 12000);
        E.due("told(3)", 12);
        E.due("tide(300); best(-3)", 0);
    }
}
