/** Promises 11 to 16: men. */
public final class MenTest {
    private static final Check CHECK = new Check();

    private static void due(String call, long got, long want) {
        CHECK.due(call, got, want);
    }

    public static void main(String[] args) {
        go();
        goBelow();
        out();
        reach();
        hose();
        stay();
        hang();
        man();
        CHECK.finish();
    }

    private static void go() {
        BellBook x = new BellBook();
        due("go(6, true)", x.go(6, true), -1);
        due("go(-1, false)", x.go(-1, false), -1);
        due("go(MIN, true)", x.go(Integer.MIN_VALUE, true), -1);
        due("ABOARD already", x.go(0, false), -5);
        due("go(0, true)", x.go(0, true), 0);
        due("man(0, 0)", x.man(0, 0), 1);
        due("IN already", x.go(0, true), -5);
        due("go(0, false)", x.go(0, false), 1);
        due("man(0, 0)", x.man(0, 0), 0);
        x.go(0, true);
        x.out(0, 0, 25);
        due("OUT to ABOARD", x.go(0, false), -5);
        due("OUT to IN", x.go(0, true), 2);
        due("man(0, 0)", x.man(0, 0), 1);
        due("man(0, 1)", x.man(0, 1), -6);
        due("man(0, 2)", x.man(0, 2), -6);
        for (int man = 1; man < 6; man++) due("all go IN", x.go(man, true), 0);
    }

    private static void goBelow() {
        BellBook x = new BellBook();
        x.go(0, true);
        x.go(1, true);
        x.depth(1);
        x.out(1, 0, 24);
        due("ABOARD, would go IN", x.go(2, true), -3);
        due("ABOARD already, but below", x.go(2, false), -3);
        due("IN, would go ABOARD", x.go(0, false), -3);
        due("OUT, would go ABOARD", x.go(1, false), -3);
        due("IN already", x.go(0, true), -5);
        due("no such man below", x.go(6, false), -1);
        due("OUT to IN", x.go(1, true), 2);
    }

    private static void out() {
        BellBook x = new BellBook();
        due("ABOARD", x.out(0, 0, 24), -3);
        due("man 6", x.out(6, 0, 24), -1);
        due("man -1", x.out(-1, 0, 24), -1);
        due("hose 3", x.out(0, 3, 24), -1);
        due("hose -1", x.out(0, -1, 24), -1);
        due("hose NONE", x.out(0, -6, 24), -1);
        due("square 49", x.out(0, 0, 49), -1);
        due("square -1", x.out(0, 0, -1), -1);
        due("square MIN", x.out(0, 0, Integer.MIN_VALUE), -1);
        for (int man = 0; man < 4; man++) x.go(man, true);
        due("too far", x.out(0, 0, 0), -5);
        due("out(0, 0, 24)", x.out(0, 0, 24), 1);
        due("out(1, 0, 24)", x.out(1, 0, 24), 1);
        due("a third, too far also", x.out(2, 0, 0), -4);
        due("OUT by another hose, too far also", x.out(0, 1, 0), -3);
        due("OUT, too far", x.out(0, 0, 0), -5);
        due("OUT to another square of two on it", x.out(1, 0, 23), 1);
        due("to the same square", x.out(1, 0, 23), 1);
        due("out(2, 1, 24)", x.out(2, 1, 24), 1);
        due("OUT by another hose that is full", x.out(2, 0, 24), -3);
        due("ABOARD, to a hose that is full", x.out(4, 0, 24), -3);
        x.go(0, true);
        due("the hose has room again", x.out(3, 0, 24), 1);
        x.minutes(2);
        due("man(1, 3)", x.man(1, 3), 4);
        x.out(1, 0, 22);
        due("another square: the count stays", x.man(1, 3), 4);
    }

    private static void reach() {
        for (int bell = 0; bell < 49; bell++) {
            BellBook x = new BellBook();
            x.hang(bell);
            x.hose(1, 1 + bell % 12);
            for (int square = 0; square < 49; square++) {
                int far = Math.abs(bell % 7 - square % 7) + Math.abs(bell / 7 - square / 7);
                x.go(5, true);
                due("out(5, 1, " + square + ") from " + bell, x.out(5, 1, square), far <= 1 + bell % 12 ? 1 : -5);
            }
        }
    }

    private static void hose() {
        BellBook x = new BellBook();
        due("hose(2, 12)", x.hose(2, 12), 4);
        due("hose(2, 1)", x.hose(2, 1), 12);
        due("hose(0, 5)", x.hose(0, 5), 4);
        due("hose(2, 3)", x.hose(2, 3), 1);
        due("hose(2, 0)", x.hose(2, 0), -2);
        due("hose(2, 13)", x.hose(2, 13), -2);
        due("hose(3, 1)", x.hose(3, 1), -1);
        due("hose(-1, 0)", x.hose(-1, 0), -1);
        due("hose(NONE, 1)", x.hose(-6, 1), -1);
        due("hose(2, 3) again", x.hose(2, 3), 3);
        x.go(1, true);
        due("a man IN is on no hose", x.hose(0, 2), 5);
        x.out(1, 2, 24);
        due("hose(2, 4) with a man on it", x.hose(2, 4), -3);
        due("hose(2, 13) with a man on it", x.hose(2, 13), -2);
        due("another hose", x.hose(1, 9), 4);
        x.go(1, true);
        due("hose(2, 4)", x.hose(2, 4), 3);
    }

    private static void stay() {
        BellBook x = new BellBook();
        due("stay(60)", x.stay(60), 10);
        due("stay(1)", x.stay(1), 60);
        due("stay(0)", x.stay(0), -2);
        due("stay(61)", x.stay(61), -2);
        due("stay(MIN)", x.stay(Integer.MIN_VALUE), -2);
        due("stay(3)", x.stay(3), 1);
        x.go(0, true);
        x.out(0, 0, 24);
        due("three minutes are not more than STAY", x.minutes(3), 0);
        due("the fourth is", x.minutes(1), 1);
        x.go(0, true);
        due("IN nothing counts", x.minutes(5), 0);
        x.out(0, 0, 24);
        due("it begins anew", x.minutes(3), 0);
        due("air(12)", x.air(12), 1);
    }

    private static void hang() {
        BellBook x = new BellBook();
        due("hang(48)", x.hang(48), 24);
        due("hang(0)", x.hang(0), 48);
        due("told(1)", x.told(1), 0);
        due("hang(49)", x.hang(49), -1);
        due("hang(-1)", x.hang(-1), -1);
        due("hang(MAX)", x.hang(Integer.MAX_VALUE), -1);
        x.go(2, true);
        x.depth(5);
        due("a man IN, below", x.hang(7), 0);
        x.out(2, 0, 7);
        due("a man OUT", x.hang(7), -3);
        due("a man OUT, no such square", x.hang(49), -1);
        x.go(2, true);
        due("hang(8)", x.hang(8), 7);
    }

    private static void man() {
        BellBook x = new BellBook();
        x.thing(30, 1, 1, 1);
        x.thing(30, 1, 1, 1);
        due("man(6, 0)", x.man(6, 0), -1);
        due("man(-1, 9)", x.man(-1, 9), -1);
        due("man(0, 5)", x.man(0, 5), -2);
        due("man(0, -1)", x.man(0, -1), -2);
        x.go(4, true);
        x.out(4, 2, 31);
        x.work(4, 1);
        x.minutes(7);
        int[] want = {2, 31, 2, 7, 1};
        for (int i = 0; i < 5; i++) due("OUT: man(4, " + i + ")", x.man(4, i), want[i]);
        x.go(4, true);
        int[] in = {1, -6, -6, 0, 1};
        for (int i = 0; i < 5; i++) due("IN: man(4, " + i + ")", x.man(4, i), in[i]);
        x.go(4, false);
        int[] aboard = {0, -6, -6, 0, 1};
        for (int i = 0; i < 5; i++) due("ABOARD: man(4, " + i + ")", x.man(4, i), aboard[i]);
        x.work(4, -1);
        due("told none: man(4, 4)", x.man(4, 4), -6);
    }
}
