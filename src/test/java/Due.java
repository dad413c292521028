/** Counts the answers of one test, prints those that are not due, and ends it with 1 if there was one. */
final class Due {
    static final int LEAST_INT = Integer.MIN_VALUE;
    static final long LEAST_LONG = Long.MIN_VALUE;
    static final int NULL = -11, INDEX = -12, CAST = -13, STORE = -14, SIZE = -15;

    private int asked;
    private int wrong;

    void is(String call, long got, long want) {
        asked++;
        if (got != want) {
            wrong++;
            System.out.println(call + " answered " + got + ", due is " + want);
        }
    }

    void holds(String what, boolean fact) {
        is(what, fact ? 1 : 0, 1);
    }

    void end() {
        System.out.println(asked + " answers, " + wrong + " not as due");
        if (asked == 0 || wrong != 0) {
            System.exit(1);
        }
    }

    /** All of a table's rows, all told by one array of key, group, value for each. */
    static void rows(SpanStore x, int table, int block, int[][] rows) {
        for (int[] r : rows) {
            x.row(table, block, r[0], r[1], r[2]);
        }
    }

    static void values(SpanStore x, int table, int block, int... values) {
        for (int v : values) {
            x.row(table, block, 0, 0, v);
        }
    }
}
