/** Promises 26 to 31: signals. */
public final class SignalTest {
    private static final Check CHECK = new Check();

    private static void due(String call, long got, long want) {
        CHECK.due(call, got, want);
    }

    public static void main(String[] args) {
        sign();
        heard();
        hear();
        tell();
        tight();
        free();
        CHECK.finish();
    }

    private static void sign() {
        BellBook x = new BellBook();
        due("sign 12", x.sign(12, 1, 1), -1);
        due("sign -1", x.sign(-1, 0, 0), -1);
        due("sign -1, a 7", x.sign(-1, 7, 0), -1);
        due("a 0", x.sign(0, 0, 1), -2);
        due("b 0", x.sign(0, 1, 0), -2);
        due("a 7", x.sign(0, 7, 1), -2);
        due("b 7", x.sign(0, 1, 7), -2);
        due("a -1", x.sign(0, -1, 1), -2);
        due("b MIN", x.sign(0, 1, Integer.MIN_VALUE), -2);
        due("none, at first already", x.sign(0, 0, 0), 1);
        due("sign(11, 6, 6)", x.sign(11, 6, 6), 1);
        due("told(6)", x.told(6), 1);
        due("another has these", x.sign(0, 6, 6), -5);
        due("it has these itself", x.sign(11, 6, 6), 1);
        due("sign(0, 1, 6)", x.sign(0, 1, 6), 1);
        due("sign(1, 6, 1)", x.sign(1, 6, 1), 1);
        due("told(6)", x.told(6), 3);
        due("other tugs", x.sign(11, 3, 3), 1);
        due("told(6)", x.told(6), 3);
        due("heard(6, 6)", x.heard(6, 6), -6);
        due("these are not taken now", x.sign(2, 6, 6), 1);
        due("none", x.sign(2, 0, 0), 1);
        due("none again", x.sign(2, 0, 0), 1);
        due("told(6)", x.told(6), 3);
        due("a second without tugs", x.sign(3, 0, 0), 1);
    }

    private static void heard() {
        BellBook x = new BellBook();
        due("no signs: heard(0, 0)", x.heard(0, 0), -6);
        due("no signs: heard(0, 1)", x.heard(0, 1), -6);
        x.sign(5, 1, 1);
        x.sign(3, 1, 2);
        x.sign(7, 6, 6);
        due("just a SIGN, though another is 1 APART", x.heard(1, 1), 5);
        due("just the other", x.heard(1, 2), 3);
        due("heard(0, 0): 2 APART", x.heard(0, 0), -6);
        due("heard(0, 1)", x.heard(0, 1), 5);
        due("heard(1, 0)", x.heard(1, 0), 5);
        due("heard(2, 1)", x.heard(2, 1), 5);
        due("heard(2, 2)", x.heard(2, 2), 3);
        due("heard(1, 3)", x.heard(1, 3), 3);
        due("heard(7, 6)", x.heard(7, 6), 7);
        due("heard(6, 7)", x.heard(6, 7), 7);
        due("heard(5, 6)", x.heard(5, 6), 7);
        due("heard(7, 7)", x.heard(7, 7), -6);
        x.sign(0, 2, 3);
        due("two are 1 APART", x.heard(2, 2), -6);
        x.sign(9, 3, 2);
        due("three are 1 APART", x.heard(2, 2), -6);
        for (int v : new int[] {-1, 8, Integer.MIN_VALUE, Integer.MAX_VALUE}) {
            due("heard(v, 0)", x.heard(v, 0), -2);
            due("heard(0, v)", x.heard(0, v), -2);
        }
    }

    private static void hear() {
        BellBook x = new BellBook();
        for (int v : new int[] {-1, 8, Integer.MIN_VALUE, Integer.MAX_VALUE}) {
            due("hear(v, 0)", x.hear(v, 0), -2);
            due("hear(0, v)", x.hear(0, v), -2);
        }
        due("told(8)", x.told(8), 0);
        due("hear(0, 0)", x.hear(0, 0), 1);
        due("hear(7, 7)", x.hear(7, 7), 2);
        due("hear(0, 7)", x.hear(0, 7), 3);
        due("hear(7, 0)", x.hear(7, 0), 4);
        due("the fifth", x.hear(1, 1), -4);
        due("the fifth, outside", x.hear(8, 1), -2);
        due("told(8)", x.told(8), 4);
        due("no signs", x.tell(), -6);
        due("told(8)", x.told(8), 0);
        due("hear(1, 1)", x.hear(1, 1), 1);
    }

    private static void tell() {
        BellBook x = new BellBook();
        x.sign(2, 2, 2);
        x.sign(4, 5, 5);
        x.sign(6, 1, 6);
        due("no hearing", x.tell(), -6);
        x.hear(0, 0);
        due("far, but the nearest", x.tell(), 2);
        x.hear(2, 2);
        x.hear(5, 5);
        due("two have the least sum", x.tell(), -6);
        due("the row is empty then", x.told(8), 0);
        x.hear(2, 2);
        x.hear(5, 5);
        x.hear(4, 4);
        due("the sum tells", x.tell(), 4);
        // 2: 4 + 4; 4: 4 + 4; 6: 1 + 1: a tie ahead of the least one is none.
        x.hear(1, 5);
        x.hear(1, 5);
        due("the last has the least", x.tell(), 6);
        x.hear(3, 4);
        x.sign(6, 3, 4);
        due("signs as they are when it is told", x.tell(), 6);
        x.sign(6, 0, 0);
        x.hear(3, 4);
        due("two signs are 3 APART", x.tell(), -6);
        x.sign(2, 0, 0);
        x.hear(0, 0);
        x.hear(0, 0);
        x.hear(0, 0);
        x.hear(0, 0);
        due("a single sign, as far as may be", x.tell(), 4);
        x.sign(4, 6, 6);
        for (int i = 0; i < 4; i++) x.hear(0, 0);
        due("farthest of all", x.tell(), 4);
        due("empty", x.tell(), -6);
    }

    private static void tight() {
        BellBook x = new BellBook();
        due("no signs", x.tight(), -6);
        x.sign(11, 1, 1);
        due("one", x.tight(), -6);
        x.sign(0, 6, 6);
        due("two", x.tight(), 10);
        x.sign(5, 1, 6);
        due("three", x.tight(), 5);
        x.sign(7, 2, 6);
        due("side by side", x.tight(), 1);
        x.sign(5, 0, 0);
        due("one gone", x.tight(), 4);
        x.sign(7, 0, 0);
        x.sign(0, 0, 0);
        due("one left", x.tight(), -6);
    }

    private static void free() {
        BellBook x = new BellBook();
        for (int d = 1; d <= 10; d++) due("no signs: free(" + d + ")", x.free(d), 11);
        due("free(0)", x.free(0), -2);
        due("free(11)", x.free(11), -2);
        due("free(MIN)", x.free(Integer.MIN_VALUE), -2);
        x.sign(0, 1, 1);
        for (int d = 1; d <= 5; d++) due("free(" + d + ")", x.free(d), 11 + d);
        for (int d = 6; d <= 10; d++) due("free(" + d + ")", x.free(d), 16 + 10 * (d - 5));
        x.sign(1, 6, 6);
        due("of both 5", x.free(5), 16);
        due("of both 6", x.free(6), -6);
        x.sign(2, 1, 6);
        due("of three 5", x.free(5), 43);
        x.sign(3, 6, 1);
        due("of four 5", x.free(5), -6);
        due("of four 4", x.free(4), 33);
        due("of four 3", x.free(3), 23);
    }
}
