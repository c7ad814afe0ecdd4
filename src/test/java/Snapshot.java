import java.util.Arrays;

/** All that can be asked of an object without changing it, so that a refused call can be shown to change nothing. */
final class Snapshot {
    private Snapshot() {
    }

    static long[] of(BellBook x) {
        long[] row = new long[400];
        int n = 0;
        for (int i = 0; i <= 12; i++) row[n++] = x.air(i);
        for (int i = 0; i <= 9; i++) row[n++] = x.told(i);
        for (int m = 0; m < 6; m++) {
            for (int i = 0; i <= 4; i++) row[n++] = x.man(m, i);
            for (int i = 0; i <= 5; i++) row[n++] = x.log(m, i);
        }
        for (int t = 0; t < x.told(3); t++) {
            for (int i = 0; i <= 8; i++) row[n++] = x.ofThing(t, i);
        }
        for (int i = -3; i < 12; i++) row[n++] = x.best(i);
        for (int i = 0; i < 12; i++) row[n++] = x.tideOf(i);
        row[n++] = x.tight();
        for (int d = 1; d <= 10; d++) row[n++] = x.free(d);
        for (int a = 0; a <= 7; a++) {
            for (int b = 0; b <= 7; b++) row[n++] = x.heard(a, b);
        }
        for (int b = 1; b <= 500; b += 83) row[n++] = x.fewest(b);
        return Arrays.copyOf(row, n);
    }

    static void dueSame(Check check, String call, BellBook x, long[] ahead) {
        long[] now = of(x);
        check.due(call + " changed what is asked: row", now.length, ahead.length);
        for (int i = 0; i < now.length && i < ahead.length; i++) {
            if (now[i] != ahead[i]) check.due(call + " changed place " + i + " of Snapshot", now[i], ahead[i]);
        }
    }
}
