/** All that can be asked of a host, in one row. */
final class Snapshot {
    private static final int ROOM = 32 * 10 + 30 * 10 + 63 + 9 + 12 * 3 + 3;

    private Snapshot() {
    }

    static long[] of(Face x) {
        long[] row = new long[ROOM];
        int at = 0;
        for (int g = 0; g < 32; g++) {
            for (int what = 0; what < 10; what++) {
                row[at++] = x.grain(g, what);
            }
        }
        for (int k = 0; k < 30; k++) {
            for (int what = 0; what < 10; what++) {
                row[at++] = x.request(k, what);
            }
        }
        for (int k = 0; k < 63; k++) {
            row[at++] = x.line(k);
        }
        for (int what = 0; what < 9; what++) {
            row[at++] = x.count(what);
        }
        for (int c = 0; c < 12; c++) {
            for (int what = 0; what < 3; what++) {
                row[at++] = x.ask(c, what);
            }
        }
        return row;
    }

    /** The first place where two rows are not the same, -1 if there is none. */
    static int firstOther(long[] one, long[] other) {
        for (int i = 0; i < one.length; i++) {
            if (one[i] != other[i]) {
                return i;
            }
        }
        return -1;
    }
}
