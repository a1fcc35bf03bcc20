import java.util.Arrays;

/** All that an object tells of itself, to compare it with what another one tells, or with itself later. */
final class State {
    static final int QUEUES = 12;

    private State() {
    }

    static int[] of(SharedQueues x) {
        int[] row = new int[QUEUES * 13 + 7 + 2 + 2 * 96];
        int n = 0;
        for (int q = 0; q < QUEUES; q++) {
            for (int what = 0; what <= 12; what++) {
                row[n++] = x.told(q, what);
            }
        }
        for (int what = 0; what <= 6; what++) {
            row[n++] = x.all(what);
        }
        row[n++] = x.word();
        row[n++] = x.next();
        for (int q = 0; q < QUEUES; q++) {
            for (int k = 0; k < x.told(q, 0); k++) {
                row[n++] = x.item(q, k, 0);
                row[n++] = x.item(q, k, 1);
            }
        }
        return row;
    }

    static String firstDifference(int[] got, int[] want) {
        int i = Arrays.mismatch(got, want);
        if (i < 0) {
            return null;
        }
        return place(i) + " is " + got[i] + ", due is " + want[i];
    }

    private static String place(int i) {
        if (i < QUEUES * 13) {
            return "told(" + i / 13 + ", " + i % 13 + ")";
        }
        int rest = i - QUEUES * 13;
        if (rest < 7) {
            return "all(" + rest + ")";
        }
        return rest == 7 ? "word()" : rest == 8 ? "next()" : "an item";
    }
}
