/** Promises 32 to 34: the log, and what is told. */
public final class LogTest {
    private static final Check CHECK = new Check();

    private static void due(String call, long got, long want) {
        CHECK.due(call, got, want);
    }

    /** entries, longest sure, longest maybe, verdict, sure, dark */
    private static void dueLog(String when, BellBook x, int man, int... want) {
        for (int i = 0; i < 6; i++) due(when + ": log(" + man + ", " + i + ")", x.log(man, i), want[i]);
    }

    public static void main(String[] args) {
        entry();
        log();
        rows();
        verdict();
        told();
        againstMinuteByMinute();
        CHECK.finish();
    }

    private static void entry() {
        BellBook x = new BellBook();
        due("man 6", x.entry(0, 6, 0), -1);
        due("man -1, minute -1", x.entry(-1, -1, 0), -1);
        due("minute -1", x.entry(-1, 0, 0), -2);
        due("minute 1001", x.entry(1001, 0, 0), -2);
        due("where -1", x.entry(0, 0, -1), -2);
        due("where 3", x.entry(0, 0, 3), -2);
        due("minute 0", x.entry(0, 5, 2), 0);
        due("another man", x.entry(0, 0, 1), 1);
        due("later", x.entry(4, 0, 0), 2);
        due("this man has one", x.entry(4, 0, 2), -5);
        due("an earlier minute of another man", x.entry(3, 1, 2), -5);
        due("the same minute of another man", x.entry(4, 1, 2), 3);
        due("this man, behind another's entry", x.entry(4, 0, 1), -5);
        for (int i = 4; i < 39; i++) due("entry", x.entry(i + 1, i % 6, i % 3), i);
        due("the 40th", x.entry(1000, 0, 0), 39);
        due("the 41st", x.entry(1000, 1, 0), -4);
        due("the 41st, earlier", x.entry(3, 1, 0), -4);
        due("the 41st, where 3", x.entry(1000, 1, 3), -2);
        due("told(7)", x.told(7), 40);
    }

    private static void log() {
        BellBook x = new BellBook();
        for (int v : new int[] {-1, 6, Integer.MIN_VALUE, Integer.MAX_VALUE}) {
            due("log(v, 0)", x.log(v, 0), -1);
            due("log(0, v)", x.log(0, v), -2);
            due("log(v, v)", x.log(v, v), -1);
        }
        x.entry(100, 3, 2);
        dueLog("one entry", x, 3, 1, 1, 1, 0, 1, 0);
        dueLog("another man", x, 2, 0, 0, 0, 0, 0, 0);
        x.entry(1000, 3, 2);
        dueLog("out between", x, 3, 2, 901, 901, 2, 901, 0);
        BellBook y = new BellBook();
        y.entry(0, 1, 0);
        y.entry(1000, 1, 1);
        dueLog("never seen OUT, but dark", y, 1, 2, 0, 999, 1, 0, 999);
    }

    private static void rows() {
        BellBook x = new BellBook();
        x.entry(10, 0, 1);
        x.entry(11, 0, 2);
        x.entry(12, 0, 2);
        x.entry(13, 0, 1);
        x.entry(14, 0, 2);
        dueLog("no minute between", x, 0, 5, 2, 2, 0, 3, 0);
        x.entry(16, 0, 0);
        dueLog("a dark minute", x, 0, 6, 2, 2, 0, 3, 1);
        x.entry(18, 0, 2);
        x.entry(20, 0, 2);
        x.entry(22, 0, 0);
        dueLog("dark, sure, dark", x, 0, 9, 3, 5, 0, 6, 3);
        x.entry(23, 1, 2);
        x.entry(40, 0, 1);
        dueLog("dark between two who are not OUT", x, 0, 10, 3, 17, 1, 6, 20);
        dueLog("the entry of another man", x, 1, 1, 1, 1, 0, 1, 0);
    }

    private static void verdict() {
        BellBook x = new BellBook();
        x.entry(0, 0, 2);
        x.entry(9, 0, 2);
        x.entry(12, 0, 1);
        dueLog("10 sure, 12 maybe", x, 0, 3, 10, 12, 1, 10, 2);
        x.stay(9);
        due("more than 9", x.log(0, 3), 2);
        x.stay(10);
        due("not more than 10", x.log(0, 3), 1);
        x.stay(11);
        due("12 are more than 11", x.log(0, 3), 1);
        x.stay(12);
        due("not more than 12", x.log(0, 3), 0);
    }

    private static void told() {
        BellBook x = new BellBook();
        for (int v : new int[] {-1, 10, Integer.MIN_VALUE, Integer.MAX_VALUE}) due("told(v)", x.told(v), -2);
        x.hang(17);
        x.thing(17, 70, 1, 1);
        x.thing(17, 30, 1, 1);
        x.thing(17, 500, 90, 1);
        x.go(0, true);
        x.depth(8);
        x.out(0, 0, 17);
        x.work(0, 1);
        x.minutes(2);
        x.tide(1);
        x.tide(1);
        x.sign(3, 1, 1);
        x.sign(4, 1, 2);
        x.sign(5, 1, 3);
        x.sign(6, 1, 4);
        for (int i = 0; i < 6; i++) x.entry(1, i, 0);
        for (int i = 0; i < 3; i++) x.hear(1, 1);
        int[] want = {2, 17, 8, 3, 2, 2, 4, 6, 3, 30};
        for (int i = 0; i < 10; i++) due("told(" + i + ")", x.told(i), want[i]);
        x.work(0, 0);
        x.minutes(1);
        due("told(0)", x.told(0), 3);
        due("told(4)", x.told(4), 3);
        due("told(9)", x.told(9), 100);
    }

    private static void againstMinuteByMinute() {
        java.util.Random random = new java.util.Random(5);
        for (int round = 0; round < 400; round++) {
            BellBook x = new BellBook();
            int[][] seen = new int[2][1001];
            for (int[] row : seen) java.util.Arrays.fill(row, -1);
            int minute = random.nextInt(4);
            for (int i = 0; i < 40 && minute <= 1000; i++) {
                int man = random.nextInt(2);
                int where = random.nextInt(4) == 0 ? random.nextInt(2) : 2;
                if (x.entry(minute, man, where) >= 0) seen[man][minute] = where;
                minute += random.nextInt(round % 2 == 0 ? 3 : 50);
            }
            int stay = 1 + random.nextInt(60);
            x.stay(stay);
            for (int man = 0; man < 2; man++) dueLog("round " + round, x, man, minuteByMinute(seen[man], stay));
        }
    }

    private static int[] minuteByMinute(int[] seen, int stay) {
        int[] sum = new int[6];
        int sureRow = 0;
        int maybeRow = 0;
        for (int m = 0; m <= 1000; m++) {
            int behind = m;
            while (behind >= 0 && seen[behind] < 0) behind--;
            int ahead = m;
            while (ahead <= 1000 && seen[ahead] < 0) ahead++;
            boolean between = behind >= 0 && ahead <= 1000;
            boolean sure = between && seen[behind] == 2 && seen[ahead] == 2;
            boolean dark = between && seen[m] < 0 && !sure;
            if (seen[m] >= 0) sum[0]++;
            if (sure) sum[4]++;
            if (dark) sum[5]++;
            sureRow = sure ? sureRow + 1 : 0;
            maybeRow = sure || dark ? maybeRow + 1 : 0;
            sum[1] = Math.max(sum[1], sureRow);
            sum[2] = Math.max(sum[2], maybeRow);
        }
        sum[3] = sum[1] > stay ? 2 : sum[2] > stay ? 1 : 0;
        return sum;
    }
}
