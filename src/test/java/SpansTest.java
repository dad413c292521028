/** Promises 11 to 16: sum, count, join, part, next, refine. */
public final class SpansTest {
    private static final Due DUE = new Due();

    public static void main(String[] args) {
        sum();
        sumOfGroups();
        sumRefusals();
        count();
        join();
        part();
        next();
        refine();
        widest();
        DUE.end();
    }

    private static void span(String what, SpanStore x, int group, long least, long greatest) {
        DUE.is("11 least " + what, x.sum(0, group, 0), least);
        DUE.is("11 greatest " + what, x.sum(0, group, 1), greatest);
    }

    private static void sum() {
        SpanStore x = new SpanStore();
        Due.values(x, 0, 0, -10, 3, 20);
        Due.values(x, 0, 5, 100, 200, 300);
        x.keeper(0, 0, 3, 0);
        x.seal(0);
        // block 0: -10 known, two from -10 to 20, 20 owed; block 5: 100 known, two from 100 to 300, 300 owed
        span("both blocks", x, -1, -10 + 10 + 100 + 400, -10 + 40 + 100 + 600);
        x.change(0, 0, 0, 50);
        span("a known row changed", x, -1, 50 + 10 + 100 + 400, 50 + 40 + 100 + 600);
        x.change(0, 5, 2, -1000);
        span("a row changed unseen", x, -1, 50 + 10 + 100 - 1000 + 100, 50 + 40 + 100 - 1000 + 300);
        x.read(0, 0);
        x.read(0, 5);
        span("all read", x, -1, 50 + 3 + 20 + 100 + 200 - 1000, 50 + 3 + 20 + 100 + 200 - 1000);
        SpanStore y = new SpanStore();
        Due.values(y, 0, 0, -10, 3, 20);
        y.seal(0);
        span("both owed", y, -1, -10 - 10 + 20, -10 + 20 + 20);
        SpanStore z = new SpanStore();
        Due.values(z, 0, 0, -10, 3, 20, 8);
        z.keeper(0, 3, 9, 0);
        z.seal(0);
        span("heavy ends", z, -1, 10 - 16, 10 + 16);
        SpanStore w = new SpanStore();
        w.seal(0);
        span("without rows", w, -1, 0, 0);
        span("group without rows", w, 2, 0, 0);
    }

    private static void sumOfGroups() {
        SpanStore x = new SpanStore();
        Due.rows(x, 0, 0, new int[][] {{0, 0, 1}, {0, 1, 4}, {0, 1, 9}, {0, 2, 6}});
        Due.rows(x, 0, 1, new int[][] {{0, 0, 5}, {0, 1, -4}, {0, 1, 7}, {0, 0, 5}});
        x.keeper(0, 1, 1, 0);
        x.seal(0);
        // block 0: only the 9 of group 1 is not known; block 1: 7 of group 1 and 5 of group 0 are not
        span("group 0", x, 0, 1 + 5 - 4, 1 + 5 + 7);
        span("group 1", x, 1, 4 + 9 - 4 - 4, 4 + 9 - 4 + 7);
        span("group 2", x, 2, 6, 6);
        span("group 3", x, 3, 0, 0);
        span("all groups", x, -1, 11 + 9 + 1 - 4 + 7, 11 + 9 + 1 + 14);
        SpanStore y = new SpanStore();
        Due.rows(y, 0, 0, new int[][] {{0, 0, 3}, {0, 1, 1}, {0, 1, 5}, {0, 1, 3}});
        y.keeper(0, 0, 12, 0);
        y.seal(0);
        span("all that are not known are of it", y, 1, 1 + 1 + 5, 5 + 5 + 1);
        span("none of it is not known", y, 0, 3, 3);
    }

    private static void sumRefusals() {
        SpanStore x = new SpanStore();
        Due.values(x, 0, 0, 1);
        DUE.is("11 open", x.sum(0, -1, 0), Due.LEAST_LONG);
        x.seal(0);
        int[][] bad = {{-1, -1, 0}, {2, -1, 0}, {0, -2, 0}, {0, 4, 0}, {0, -1, -1}, {0, -1, 2}};
        for (int[] b : bad) {
            DUE.is("11 bad", x.sum(b[0], b[1], b[2]), Due.LEAST_LONG);
        }
        DUE.is("11 no finding", x.told(3), 0);
    }

    private static void count() {
        SpanStore x = new SpanStore();
        Due.values(x, 1, 0, -10, 3, 20, 5);
        x.keeper(1, 0, 12, 0);
        DUE.is("12 open", x.count(1, 0, 0), SpanStore.STATE);
        DUE.is("12 bad ahead of open", x.count(1, 0, 2), SpanStore.BAD);
        x.seal(1);
        int[][] due = {
            {-11, 4, 4}, {-10, 4, 4}, {-9, 1, 3}, {20, 1, 3}, {21, 0, 0},
            {Integer.MIN_VALUE, 4, 4}, {Integer.MAX_VALUE, 0, 0},
        };
        for (int[] d : due) {
            DUE.is("12 least " + d[0], x.count(1, d[0], 0), d[1]);
            DUE.is("12 greatest " + d[0], x.count(1, d[0], 1), d[2]);
        }
        SpanStore y = new SpanStore();
        Due.values(y, 1, 3, -10, 3, 20, 5);
        y.seal(1);
        DUE.is("12 both owed", y.count(1, 0, 0), 1);
        DUE.is("12 both owed", y.count(1, 0, 1), 3);
        y.change(1, 3, 1, 1000);
        DUE.is("12 none owed", y.count(1, 0, 0), 1);
        DUE.is("12 none owed", y.count(1, 0, 1), 4);
        DUE.is("12 changed above all", y.count(1, 21, 0), 1);
        y.read(1, 3);
        DUE.is("12 read", y.count(1, 5, 0), 3);
        DUE.is("12 read", y.count(1, 5, 1), 3);
        DUE.is("12 bad", y.count(-1, 0, 0), SpanStore.BAD);
        DUE.is("12 bad", y.count(2, 0, 0), SpanStore.BAD);
        DUE.is("12 bad", y.count(1, 0, -1), SpanStore.BAD);
    }

    private static SpanStore joined() {
        SpanStore x = new SpanStore();
        Due.rows(x, 0, 0, new int[][] {{4, 0, 1}, {7, 0, 2}, {5, 0, 3}, {4, 1, 4}});
        Due.rows(x, 0, 6, new int[][] {{7, 0, 1}, {99, 0, 2}});
        Due.rows(x, 1, 1, new int[][] {{4, 0, 1}, {4, 0, 2}, {5, 0, 3}});
        Due.rows(x, 1, 2, new int[][] {{7, 3, 1}, {0, 0, 2}});
        x.keeper(0, 2, 3, 1);
        x.keeper(1, 2, 3, 1);
        x.keeper(1, 3, 2, 0);
        return x;
    }

    private static void join() {
        SpanStore x = joined();
        x.seal(1);
        DUE.is("13 one is open", x.join(0), SpanStore.STATE);
        DUE.is("13 bad ahead of open", x.join(2), SpanStore.BAD);
        x.seal(0);
        // known of 0: keys 4, 7, 4, 7; of 1: all
        DUE.is("13 least", x.join(0), 2 + 1 + 2 + 1);
        DUE.is("13 greatest", x.join(1), 6 + 2 * 5);
        x.read(0, 0);
        DUE.is("13 least", x.join(0), 7);
        DUE.is("13 greatest", x.join(1), 7 + 5);
        x.read(0, 6);
        DUE.is("13 exact", x.join(1), 7);
        DUE.is("13 bad", x.join(-1), SpanStore.BAD);
        SpanStore y = new SpanStore();
        Due.rows(y, 0, 0, new int[][] {{1, 0, 0}, {2, 0, 0}, {3, 0, 0}});
        Due.rows(y, 1, 0, new int[][] {{1, 0, 0}, {2, 0, 0}, {3, 0, 0}, {1, 0, 0}, {1, 0, 0}});
        y.keeper(0, 0, 2, 0);
        y.keeper(1, 0, 3, 0);
        y.seal(0);
        DUE.is("13 the second is open", y.join(1), SpanStore.STATE);
        y.seal(1);
        DUE.is("13 half both: least", y.join(0), 2);
        DUE.is("13 half both: greatest", y.join(1), 2 + 1 * 5 + 2 * 3);
        y.read(0, 0);
        DUE.is("13 the second half: least", y.join(0), 2);
        DUE.is("13 the second half: greatest", y.join(1), 2 + 3 * 3);
    }

    private static void part() {
        SpanStore x = joined();
        x.seal(0);
        DUE.is("14 one is open", x.part(3, 1), SpanStore.STATE);
        DUE.is("14 bad ahead of open", x.part(3, 3), SpanStore.BAD);
        x.seal(1);
        DUE.is("14 part", x.part(3, 1), 6);
        x.read(0, 0);
        DUE.is("14 part stays exact", x.part(3, 1), 6);
        int[][] bad = {{0, 0}, {101, 0}, {3, -1}, {3, 3}, {-3, 0}, {Integer.MIN_VALUE, 0}};
        for (int[] b : bad) {
            DUE.is("14 bad", x.part(b[0], b[1]), SpanStore.BAD);
        }
        DUE.is("14 no such keeper", x.part(3, 0), SpanStore.NOT);
        DUE.is("14 no such keeper", x.part(6, 1), SpanStore.NOT);
        DUE.is("14 a heavy one is none", x.part(2, 0), SpanStore.NOT);
        SpanStore y = new SpanStore();
        y.keeper(0, 2, 100, 99);
        y.keeper(0, 2, 7, 0);
        y.keeper(1, 2, 7, 0);
        Due.rows(y, 0, 0, new int[][] {{99, 0, 0}, {7, 0, 0}, {0, 0, 0}});
        Due.rows(y, 1, 0, new int[][] {{7, 0, 0}, {0, 0, 0}, {0, 0, 0}});
        y.seal(0);
        y.seal(1);
        DUE.is("14 only the first has it", y.part(100, 99), SpanStore.NOT);
        DUE.is("14 the second keeper", y.part(7, 0), 3);
        y.clear(0);
        DUE.is("14 the first is open", y.part(7, 0), SpanStore.STATE);
        y.keeper(0, 1, 1, 0);
        y.seal(0);
        DUE.is("14 only the second has it", y.part(7, 0), SpanStore.NOT);
    }

    private static void next() {
        SpanStore x = new SpanStore();
        Due.rows(x, 0, 1, new int[][] {{0, 0, 0}, {0, 0, 10}, {0, 1, 5}, {0, 1, 5}});
        Due.rows(x, 0, 2, new int[][] {{0, 0, 0}, {0, 0, 10}, {0, 1, 5}, {0, 1, 5}});
        Due.rows(x, 0, 3, new int[][] {{0, 0, -20}, {0, 0, 0}, {0, 0, 1}, {0, 2, -20}});
        Due.rows(x, 0, 4, new int[][] {{0, 3, 500}, {0, 3, -500}});
        DUE.is("15 open", x.next(0, -1), SpanStore.STATE);
        DUE.is("15 bad ahead of open", x.next(0, 4), SpanStore.BAD);
        x.keeper(0, 0, 12, 0);
        x.seal(0);
        DUE.is("15 farthest", x.next(0, -1), 3);
        DUE.is("15 of group 0", x.next(0, 0), 3);
        DUE.is("15 of like ones the least", x.next(0, 1), 1);
        DUE.is("15 of group 2", x.next(0, 2), 3);
        DUE.is("15 owed by its one row: exact", x.next(0, 3), SpanStore.NONE);
        x.read(0, 3);
        DUE.is("15 read", x.next(0, -1), 1);
        x.read(0, 1);
        DUE.is("15 read", x.next(0, 1), 2);
        x.change(0, 4, 0, 0);
        x.change(0, 4, 1, 0);
        x.read(0, 2);
        DUE.is("15 nowhere", x.next(0, -1), SpanStore.NONE);
        DUE.is("15 bad", x.next(-1, -1), SpanStore.BAD);
        DUE.is("15 bad", x.next(2, -1), SpanStore.BAD);
        DUE.is("15 bad", x.next(0, -2), SpanStore.BAD);
        SpanStore y = new SpanStore();
        Due.values(y, 1, 7, 3, 3, 3);
        y.seal(1);
        DUE.is("15 half, but not apart", y.next(1, -1), SpanStore.NONE);
        Due.values(y, 0, 5, 3, 4, 4);
        y.seal(0);
        DUE.is("15 apart by one", y.next(0, -1), 5);
    }

    private static SpanStore threeBlocks() {
        SpanStore x = new SpanStore();
        Due.values(x, 0, 0, 0, 1, 2, 3);
        Due.values(x, 0, 3, 0, 100, 200, 300);
        Due.values(x, 0, 7, 0, 10, 20, 30);
        Due.values(x, 0, 4, 5, 5);
        return x;
    }

    private static void refine() {
        SpanStore x = threeBlocks();
        DUE.is("16 open", x.refine(0, -1, 0), SpanStore.STATE);
        DUE.is("16 bad ahead of open", x.refine(0, -1, 1000001), SpanStore.BAD);
        x.seal(0);
        // apart: 6, 600 and 60, since both ends are owed in each
        DUE.is("16 near enough", x.refine(0, -1, 666), 0);
        DUE.is("16 the most", x.refine(0, -1, 1000000), 0);
        DUE.is("16 one", x.refine(0, -1, 665), 1);
        DUE.is("16 the farthest", x.about(0, 3, 3), 0);
        DUE.is("16 not the others", x.about(0, 7, 3), 4);
        DUE.is("16 a group that is nowhere", x.refine(0, 2, 0), 0);
        DUE.is("16 the rest", x.refine(0, 0, 0), 2);
        DUE.is("16 exact", x.sum(0, -1, 1), x.sum(0, -1, 0));
        DUE.is("16 reads", x.told(2), 3);
        DUE.is("16 half, but not apart: not read", x.about(0, 4, 3), 2);
        SpanStore y = threeBlocks();
        y.seal(0);
        DUE.is("16 two", y.refine(0, -1, 59), 2);
        DUE.is("16 the one left", y.about(0, 0, 3), 4);
        int[][] bad = {{-1, -1, 0}, {2, -1, 0}, {0, -2, 0}, {0, 4, 0}, {0, -1, -1}, {0, -1, 1000001}};
        for (int[] b : bad) {
            DUE.is("16 bad", y.refine(b[0], b[1], b[2]), SpanStore.BAD);
        }
        DUE.is("16 nothing read", y.told(2), 2);
    }

    /** As many rows, as far apart and in as many blocks as there can be. */
    private static void widest() {
        SpanStore x = new SpanStore();
        for (int block = 0; block < 8; block++) {
            for (int row = 0; row < 12; row++) {
                x.row(0, block, 1, 3, row == 0 ? -1000 : 1000);
                x.row(1, block, 1, 3, 0);
            }
        }
        x.seal(0);
        x.seal(1);
        DUE.is("11 least of all", x.sum(0, 3, 0), -80000);
        DUE.is("11 greatest of all", x.sum(0, 3, 1), 80000);
        DUE.is("13 greatest of all", x.join(1), 96 * 96);
        DUE.is("16 all", x.refine(0, -1, 0), 8);
        DUE.is("13 none known of the second", x.join(0), 0);
        DUE.is("16 nothing apart", x.refine(1, -1, 0), 0);
        for (int block = 0; block < 8; block++) {
            x.read(1, block);
        }
        DUE.is("13 all", x.join(0), 96 * 96);
    }
}
