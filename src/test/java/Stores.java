/** Objects to begin with, made in less than 70 calls and without a finding. */
final class Stores {
    /** Numbers below and above each range of the document. */
    static final int TOP = Integer.MAX_VALUE, BOTTOM = Integer.MIN_VALUE;

    private Stores() {
    }

    /**
     * Both tables are open. Table 0 has two keepers, 5 rows in block 2 and 12, so that it is full, in block 5;
     * table 1 has four keepers, 12 rows in block 0 and 3 in block 1. Sheet 0 has 12 bytes (keys), 1 has
     * 11 shorts (groups), 2 has 13 ints (values), 3 is lost.
     */
    static SpanStore open() {
        SpanStore x = new SpanStore();
        x.sheet(0, 0, 12);
        x.sheet(1, 1, 11);
        x.sheet(2, 2, 13);
        for (int i = 0; i < 11; i++) {
            x.put(0, 0, i, 9 * i);
            x.put(1, 1, i, i % 4);
            x.put(2, 2, i, 90 * i - 400);
        }
        x.load(0, 2, 0, 1, 2, 5);
        x.load(0, 5, 0, 1, 2, 11);
        x.row(0, 5, 99, 3, -1000);
        x.load(1, 0, 0, 1, 2, 11);
        x.row(1, 0, 99, 0, 1000);
        x.load(1, 1, 0, 1, 2, 3);
        x.keeper(0, 0, 3, 0);
        x.keeper(0, 2, 5, 2);
        x.keeper(1, 2, 5, 2);
        x.keeper(1, 1, 1, 0);
        x.keeper(1, 0, 12, 0);
        x.keeper(1, 3, 900, 0);
        return x;
    }

    /** The same, and table 0 is sealed; its blocks 2 and 5 are half. */
    static SpanStore mixed() {
        SpanStore x = open();
        x.seal(0);
        return x;
    }

    static SpanStore sealed() {
        SpanStore x = mixed();
        x.seal(1);
        return x;
    }

    /** One row for each value in block 0 of table 0, which is sealed; all of key 0 and group 0 but these rows. */
    static SpanStore block(int[][] keepers, int... values) {
        SpanStore x = new SpanStore();
        Due.values(x, 0, 0, values);
        for (int[] k : keepers) {
            x.keeper(0, k[0], k[1], k[2]);
        }
        x.seal(0);
        return x;
    }

    /** The same, but rows have the group told and a key of 1 if they are to be known, of 0 if not. */
    static SpanStore rows(int[]... knownGroupValue) {
        SpanStore x = new SpanStore();
        x.keeper(0, 2, 2, 1);
        for (int[] r : knownGroupValue) {
            x.row(0, 0, r[0], r[1], r[2]);
        }
        x.seal(0);
        return x;
    }
}
