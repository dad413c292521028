/** Promises 1 to 10: a new object, row, load, keeper, seal, clear, read, change, value, about. */
public final class TablesTest {
    private static final Due DUE = new Due();

    public static void main(String[] args) {
        newObject();
        row();
        load();
        loadRefusals();
        keeperLimits();
        keepersKeep();
        seal();
        clear();
        read();
        change();
        value();
        about();
        owed();
        DUE.end();
    }

    private static void newObject() {
        SpanStore x = new SpanStore();
        for (int what = 0; what <= 9; what++) {
            DUE.is("1 told(" + what + ")", x.told(what), 0);
        }
        for (int s = 0; s < 4; s++) {
            DUE.is("1 lose(" + s + ") of a new object", x.lose(s), Due.NULL);
        }
        for (int t = 0; t < 2; t++) {
            DUE.is("1 a new table is open", x.next(t, -1), SpanStore.STATE);
            DUE.is("1 clear of a new table", x.clear(t), 0);
        }
        SpanStore y = new SpanStore();
        y.row(0, 0, 1, 1, 1);
        DUE.is("1 objects share nothing", x.told(0), 0);
    }

    private static void row() {
        SpanStore x = new SpanStore();
        DUE.is("2 first", x.row(0, 0, 0, 0, -1000), 0);
        DUE.is("2 second", x.row(0, 0, 99, 3, 1000), 1);
        DUE.is("2 other block", x.row(0, 7, 0, 0, 0), 0);
        DUE.is("2 other table", x.row(1, 0, 0, 0, 0), 0);
        int[][] bad = {
            {-1, 0, 0, 0, 0}, {2, 0, 0, 0, 0}, {0, -1, 0, 0, 0}, {0, 8, 0, 0, 0}, {0, 0, -1, 0, 0},
            {0, 0, 100, 0, 0}, {0, 0, 0, -1, 0}, {0, 0, 0, 4, 0}, {0, 0, 0, 0, -1001}, {0, 0, 0, 0, 1001},
            {Integer.MAX_VALUE, 0, 0, 0, 0}, {0, Integer.MIN_VALUE, 0, 0, 0}, {0, 0, 0, 0, Integer.MIN_VALUE},
        };
        for (int[] b : bad) {
            DUE.is("2 bad", x.row(b[0], b[1], b[2], b[3], b[4]), SpanStore.BAD);
        }
        DUE.is("2 rows", x.told(0), 3);
        for (int i = 2; i < 12; i++) {
            DUE.is("2 row " + i, x.row(0, 0, 5, 1, i), i);
        }
        DUE.is("2 full", x.row(0, 0, 5, 1, 0), SpanStore.FULL);
        DUE.is("2 bad ahead of full", x.row(0, 0, 100, 1, 0), SpanStore.BAD);
        DUE.is("2 other block not full", x.row(0, 1, 5, 1, 0), 0);
        x.seal(0);
        DUE.is("2 sealed ahead of full", x.row(0, 0, 5, 1, 0), SpanStore.STATE);
        DUE.is("2 bad ahead of sealed", x.row(0, 0, 5, 4, 0), SpanStore.BAD);
        DUE.is("2 other table open", x.row(1, 0, 5, 1, 0), 1);
        DUE.is("2 rows behind", x.told(0), 14);
    }

    private static SpanStore withSheets() {
        SpanStore x = new SpanStore();
        x.sheet(0, 0, 12);
        x.sheet(1, 1, 11);
        x.sheet(2, 2, 40);
        for (int i = 0; i < 11; i++) {
            x.put(0, 0, i, 10 + i);
            x.put(1, 1, i, i % 4);
            x.put(2, 2, i, 100 * i - 500);
        }
        return x;
    }

    private static void load() {
        SpanStore x = withSheets();
        x.row(0, 3, 77, 3, 7);
        DUE.is("3 load", x.load(0, 3, 0, 1, 2, 5), 6);
        DUE.is("3 rows", x.told(0), 6);
        x.seal(0);
        DUE.is("3 read", x.read(0, 3), 6);
        DUE.is("3 the row ahead", x.value(0, 3, 0), 7);
        for (int i = 0; i < 5; i++) {
            DUE.is("3 value", x.value(0, 3, i + 1), 100 * i - 500);
        }
        DUE.is("3 group 0", x.about(0, 3, 10), 2);
        DUE.is("3 group 1", x.about(0, 3, 11), 1);
        DUE.is("3 group 3", x.about(0, 3, 13), 2);
        DUE.is("3 written", x.write(0, 2, 2, 0), 6);
        DUE.is("3 values as bytes", x.get(0, 0, 1), (byte) -500);
        SpanStore y = withSheets();
        y.sheet(3, 2, 3);
        DUE.is("3 one sheet thrice", y.load(1, 0, 3, 3, 3, 3), 3);
        DUE.is("3 the most", y.load(1, 0, 0, 1, 2, 9), 12);
        y.seal(1);
        y.read(1, 0);
        y.write(1, 2, 1, 0);
        DUE.is("3 key", y.get(2, 2, 5), 12);
        DUE.is("3 group", y.get(1, 1, 5), 2);
    }

    private static void loadRefusals() {
        SpanStore x = withSheets();
        long before = x.digest();
        int[][] bad = {
            {-1, 0, 0, 1, 2, 1}, {2, 0, 0, 1, 2, 1}, {0, -1, 0, 1, 2, 1}, {0, 8, 0, 1, 2, 1}, {0, 0, -1, 1, 2, 1},
            {0, 0, 4, 1, 2, 1}, {0, 0, 0, -1, 2, 1}, {0, 0, 0, 4, 2, 1}, {0, 0, 0, 1, -1, 1}, {0, 0, 0, 1, 4, 1},
            {0, 0, 0, 1, 2, 0}, {0, 0, 0, 1, 2, 13}, {0, 0, 0, 1, 2, -1}, {0, 0, 0, 1, 2, Integer.MAX_VALUE},
        };
        for (int[] b : bad) {
            DUE.is("3 bad", x.load(b[0], b[1], b[2], b[3], b[4], b[5]), SpanStore.BAD);
        }
        DUE.is("3 no finding yet", x.told(3), 0);
        DUE.is("3 null k", x.load(0, 0, 3, 1, 2, 12), Due.NULL);
        DUE.is("3 null g", x.load(0, 0, 0, 3, 2, 1), Due.NULL);
        DUE.is("3 null v ahead of index", x.load(0, 0, 0, 1, 3, 12), Due.NULL);
        DUE.is("3 told", x.told(3), 1);
        DUE.is("3 index g", x.load(0, 0, 0, 1, 2, 12), Due.INDEX);
        DUE.is("3 index k", x.load(0, 0, 1, 0, 2, 12), Due.INDEX);
        DUE.is("3 index v", x.load(0, 0, 0, 2, 1, 12), Due.INDEX);
        DUE.is("3 told", x.told(3), 2);
        x.put(0, 0, 3, 100);
        DUE.is("3 a key that is none", x.load(0, 0, 0, 1, 2, 4), SpanStore.BAD);
        x.put(0, 0, 3, -1);
        DUE.is("3 a key below", x.load(0, 0, 0, 1, 2, 4), SpanStore.BAD);
        DUE.is("3 nothing of it stays", x.told(0), 0);
        x.put(0, 0, 0, 100);
        DUE.is("3 the first key is none", x.load(0, 0, 0, 1, 2, 1), SpanStore.BAD);
        x.put(0, 0, 0, 10);
        x.put(1, 1, 2, 4);
        DUE.is("3 a group that is none", x.load(0, 0, 0, 1, 2, 3), SpanStore.BAD);
        x.put(2, 2, 1, 1001);
        DUE.is("3 a value that is none", x.load(0, 0, 0, 1, 2, 2), SpanStore.BAD);
        DUE.is("3 finding of items that are none", x.told(3), 2);
        DUE.is("3 unchanged", x.digest(), before);
        DUE.is("3 an item behind the end does not count", x.load(0, 0, 0, 1, 2, 1), 1);
        Due.values(x, 0, 0, 1, 2, 3, 4, 5, 6, 7, 8, 9, 10);
        DUE.is("3 full ahead of null", x.load(0, 0, 3, 1, 2, 2), SpanStore.FULL);
        DUE.is("3 to the brim", x.load(0, 0, 0, 1, 2, 1), 12);
        x.seal(0);
        DUE.is("3 sealed ahead of full", x.load(0, 0, 0, 1, 2, 1), SpanStore.STATE);
        DUE.is("3 bad ahead of sealed", x.load(0, 0, 0, 1, 4, 1), SpanStore.BAD);
    }

    private static void keeperLimits() {
        SpanStore x = new SpanStore();
        int[][] bad = {
            {-1, 0, 1, 0}, {2, 0, 1, 0}, {0, -1, 1, 0}, {0, 4, 1, 0}, {0, 0, 0, 0}, {0, 0, 13, 0}, {0, 0, 1, 1},
            {0, 0, 2, -1}, {0, 1, 0, 0}, {0, 1, 13, 0}, {0, 1, 2, 1}, {0, 2, 0, 0}, {0, 2, 101, 0}, {0, 2, 5, 5},
            {0, 2, 5, -1}, {0, 3, 0, 0}, {0, 3, 1001, 0}, {0, 3, -5, 0}, {0, 3, 5, 1},
            {0, 2, Integer.MIN_VALUE, 0}, {0, Integer.MAX_VALUE, 1, 0},
        };
        for (int[] b : bad) {
            DUE.is("4 bad", x.keeper(b[0], b[1], b[2], b[3]), SpanStore.BAD);
        }
        DUE.is("4 none yet", x.told(6), 0);
        int[][] good = {{0, 0, 1, 0}, {0, 0, 12, 0}, {0, 1, 1, 0}, {0, 1, 12, 0}};
        for (int i = 0; i < 4; i++) {
            DUE.is("4 good", x.keeper(good[i][0], good[i][1], good[i][2], good[i][3]), i + 1);
        }
        DUE.is("4 full", x.keeper(0, 0, 1, 0), SpanStore.FULL);
        DUE.is("4 bad ahead of full", x.keeper(0, 0, 13, 0), SpanStore.BAD);
        int[][] more = {{1, 2, 1, 0}, {1, 2, 100, 99}, {1, 3, 1, 0}, {1, 3, 1000, 0}};
        for (int i = 0; i < 4; i++) {
            DUE.is("4 good", x.keeper(more[i][0], more[i][1], more[i][2], more[i][3]), i + 1);
        }
        x.seal(0);
        DUE.is("4 sealed ahead of full", x.keeper(0, 0, 1, 0), SpanStore.STATE);
        DUE.is("4 bad ahead of sealed", x.keeper(0, 2, 3, 3), SpanStore.BAD);
        DUE.is("4 keepers 0", x.told(6), 4);
        DUE.is("4 keepers 1", x.told(7), 4);
    }

    /** Which rows of one block are known once it is sealed with a keeper, a bit for each. */
    private static int kept(int kind, int a, int b) {
        SpanStore x = new SpanStore();
        int[][] rows = {
            {0, 0, 5}, {1, 1, -5}, {2, 0, 4}, {3, 0, -4}, {4, 1, 6}, {99, 2, 1000}, {7, 0, 0}, {98, 1, -1000},
        };
        Due.rows(x, 0, 4, rows);
        x.keeper(0, kind, a, b);
        x.seal(0);
        int bits = 0;
        for (int i = 0; i < rows.length; i++) {
            bits |= x.value(0, 4, i) == rows[i][2] ? 1 << i : 0;
        }
        return bits;
    }

    private static void keepersKeep() {
        DUE.is("4 EVERY 1", kept(0, 1, 0), 0b11111111);
        DUE.is("4 EVERY 3", kept(0, 3, 0), 0b01001001);
        DUE.is("4 EVERY 12", kept(0, 12, 0), 0b00000001);
        DUE.is("4 STRATA 1", kept(1, 1, 0), 0b00100011);
        DUE.is("4 STRATA 2", kept(1, 2, 0), 0b00110111);
        DUE.is("4 STRATA 3", kept(1, 3, 0), 0b10111111);
        DUE.is("4 KEYED 1 0", kept(2, 1, 0), 0b11111111);
        DUE.is("4 KEYED 3 1", kept(2, 3, 1), 0b01010010);
        DUE.is("4 KEYED 3 0", kept(2, 3, 0), 0b00101001);
        DUE.is("4 KEYED 100 99", kept(2, 100, 99), 0b00100000);
        DUE.is("4 HEAVY 5", kept(3, 5, 0), 0b10110011);
        DUE.is("4 HEAVY 1", kept(3, 1, 0), 0b10111111);
        DUE.is("4 HEAVY 1000", kept(3, 1000, 0), 0b10100000);
    }

    private static void seal() {
        SpanStore x = new SpanStore();
        DUE.is("5 bad", x.seal(-1), SpanStore.BAD);
        DUE.is("5 bad", x.seal(2), SpanStore.BAD);
        DUE.is("5 without rows", x.seal(1), 0);
        DUE.is("5 again", x.seal(1), SpanStore.STATE);
        DUE.is("5 sealed", x.told(5), 1);
        DUE.is("5 the other not", x.told(4), 0);
        Due.values(x, 0, 0, 1, 2, 3, 4, 5);
        Due.values(x, 0, 7, 1, 2, 3, 4, 5);
        x.keeper(0, 0, 2, 0);
        x.keeper(0, 3, 4, 0);
        DUE.is("5 rows that two keepers keep count once", x.seal(0), 8);
        DUE.is("5 known", x.told(8), 8);
        DUE.is("5 again", x.seal(0), SpanStore.STATE);
        SpanStore y = new SpanStore();
        Due.values(y, 0, 0, 1, 2, 3);
        DUE.is("5 without keepers", y.seal(0), 0);
    }

    private static void clear() {
        SpanStore x = new SpanStore();
        DUE.is("6 bad", x.clear(-1), SpanStore.BAD);
        DUE.is("6 bad", x.clear(2), SpanStore.BAD);
        Due.values(x, 0, 0, 1, 2, 3);
        Due.values(x, 0, 5, 1, 2);
        Due.values(x, 1, 5, 1, 2);
        x.keeper(0, 0, 1, 0);
        DUE.is("6 open", x.clear(0), 5);
        DUE.is("6 rows", x.told(0), 0);
        DUE.is("6 keepers", x.told(6), 0);
        DUE.is("6 the other stays", x.told(1), 2);
        Due.values(x, 0, 5, 7, 8, 9);
        DUE.is("6 no keeper is left", x.seal(0), 0);
        x.change(0, 5, 0, 0);
        DUE.is("6 groups anew", x.about(0, 5, 10), 3);
        x.read(0, 5);
        DUE.is("6 sealed", x.clear(0), 3);
        DUE.is("6 open again", x.told(4), 0);
        DUE.is("6 known", x.told(8), 0);
        DUE.is("6 reads stay", x.told(2), 1);
        Due.values(x, 0, 5, -1, 1);
        DUE.is("6 rows are not known from before", x.seal(0), 0);
        DUE.is("6 owed as if never changed", x.about(0, 5, 6), 1);
        DUE.is("6 greatest anew", x.about(0, 5, 2), 1);
        x.clear(0);
        x.seal(0);
        DUE.is("6 least without rows", x.about(0, 5, 1), 0);
        DUE.is("6 group without rows", x.about(0, 5, 10), 0);
    }

    private static void read() {
        SpanStore x = new SpanStore();
        Due.values(x, 0, 2, 1, 2, 3, 4);
        DUE.is("7 open", x.read(0, 2), SpanStore.STATE);
        DUE.is("7 bad ahead of open", x.read(0, 8), SpanStore.BAD);
        x.keeper(0, 0, 3, 0);
        x.seal(0);
        DUE.is("7 bad", x.read(0, -1), SpanStore.BAD);
        DUE.is("7 bad", x.read(-1, 2), SpanStore.BAD);
        DUE.is("7 bad", x.read(2, 2), SpanStore.BAD);
        DUE.is("7 without rows", x.read(0, 3), 0);
        DUE.is("7 no read of a half block", x.told(2), 0);
        DUE.is("7 half", x.read(0, 2), 2);
        DUE.is("7 all known", x.told(8), 4);
        DUE.is("7 value", x.value(0, 2, 1), 2);
        DUE.is("7 again", x.read(0, 2), 0);
        DUE.is("7 reads", x.told(2), 1);
        DUE.is("7 exact", x.sum(0, -1, 0), 10);
        DUE.is("7 exact", x.sum(0, -1, 1), 10);
    }

    private static void change() {
        SpanStore x = new SpanStore();
        Due.values(x, 0, 1, 10, 20, 30);
        DUE.is("8 open", x.change(0, 1, 0, 0), SpanStore.STATE);
        DUE.is("8 bad ahead of open", x.change(0, 1, 3, 0), SpanStore.BAD);
        x.keeper(0, 0, 3, 0);
        x.seal(0);
        int[][] bad = {
            {-1, 1, 0, 0}, {2, 1, 0, 0}, {0, -1, 0, 0}, {0, 8, 0, 0}, {0, 1, -1, 0}, {0, 1, 3, 0}, {0, 0, 0, 0},
            {0, 1, 0, 1001}, {0, 1, 0, -1001},
        };
        for (int[] b : bad) {
            DUE.is("8 bad", x.change(b[0], b[1], b[2], b[3]), SpanStore.BAD);
        }
        DUE.is("8 known row", x.change(0, 1, 0, -1000), 1);
        DUE.is("8 value", x.value(0, 1, 0), -1000);
        DUE.is("8 known as before", x.told(8), 1);
        DUE.is("8 least stays", x.about(0, 1, 1), 10);
        DUE.is("8 row not known", x.change(0, 1, 2, 1000), 1);
        DUE.is("8 is known", x.value(0, 1, 2), 1000);
        DUE.is("8 known", x.told(8), 2);
        DUE.is("8 greatest stays", x.about(0, 1, 2), 30);
        DUE.is("8 high stays", x.about(0, 1, 5), 30);
        DUE.is("8 the last", x.change(0, 1, 1, 20), 1);
        DUE.is("8 no longer half", x.about(0, 1, 5), 0);
        DUE.is("8 nothing to read", x.read(0, 1), 0);
        DUE.is("8 no read done", x.told(2), 0);
        DUE.is("8 a changed row stays changed", x.sum(0, -1, 0), 20);
    }

    private static void value() {
        SpanStore x = new SpanStore();
        Due.values(x, 1, 6, -7, 8, 9);
        x.keeper(1, 0, 2, 0);
        DUE.is("9 open", x.value(1, 6, 0), Due.LEAST_INT);
        x.seal(1);
        DUE.is("9 known", x.value(1, 6, 0), -7);
        DUE.is("9 not known", x.value(1, 6, 1), Due.LEAST_INT);
        DUE.is("9 known", x.value(1, 6, 2), 9);
        DUE.is("9 no such row", x.value(1, 6, 3), Due.LEAST_INT);
        DUE.is("9 no such row", x.value(1, 6, -1), Due.LEAST_INT);
        DUE.is("9 no such block", x.value(1, 8, 0), Due.LEAST_INT);
        DUE.is("9 no such block", x.value(1, -1, 0), Due.LEAST_INT);
        DUE.is("9 no such table", x.value(2, 6, 0), Due.LEAST_INT);
        DUE.is("9 no such table", x.value(-1, 6, 0), Due.LEAST_INT);
        DUE.is("9 no finding", x.told(3), 0);
    }

    private static void about() {
        SpanStore x = new SpanStore();
        Due.rows(x, 0, 2, new int[][] {{1, 0, 5}, {2, 1, -9}, {3, 1, 40}, {4, 3, 2}, {5, 0, 12}});
        DUE.is("10 open", x.about(0, 2, 0), Due.LEAST_INT);
        x.keeper(0, 3, 13, 0);
        x.keeper(0, 3, 41, 0);
        x.seal(0);
        int[] facts = {5, -9, 40, 4, -9, 12, 1, 0, Due.LEAST_INT, Due.LEAST_INT, 2, 2, 0, 1, Due.LEAST_INT};
        for (int what = 0; what < facts.length; what++) {
            DUE.is("10 about(0, 2, " + what + ")", x.about(0, 2, what), facts[what]);
            int none = facts[what] == Due.LEAST_INT ? Due.LEAST_INT : 0;
            DUE.is("10 about(0, 3, " + what + ")", x.about(0, 3, what), none);
        }
        DUE.is("10 bad", x.about(0, 2, -1), Due.LEAST_INT);
        DUE.is("10 bad", x.about(0, 8, 0), Due.LEAST_INT);
        DUE.is("10 bad", x.about(0, -1, 0), Due.LEAST_INT);
        DUE.is("10 bad", x.about(2, 2, 0), Due.LEAST_INT);
        DUE.is("10 bad", x.about(-1, 2, 0), Due.LEAST_INT);
        x.read(0, 2);
        int[] read = {5, -9, 40, 0, 0, 0, 0, 0};
        for (int what = 0; what < read.length; what++) {
            DUE.is("10 read: about(0, 2, " + what + ")", x.about(0, 2, what), read[what]);
        }
        SpanStore y = new SpanStore();
        Due.values(y, 0, 0, -50, -3, 3, 50);
        y.keeper(0, 3, 50, 0);
        y.keeper(0, 3, 4, 0);
        y.seal(0);
        DUE.is("10 low by the least heavy", y.about(0, 0, 4), -3);
        DUE.is("10 high by the least heavy", y.about(0, 0, 5), 3);
    }

    private static void owed() {
        SpanStore x = new SpanStore();
        Due.values(x, 0, 0, -5, 0, 5, -5, 5);
        x.seal(0);
        DUE.is("10 least owed", x.about(0, 0, 6), 1);
        DUE.is("10 greatest owed", x.about(0, 0, 7), 1);
        SpanStore y = new SpanStore();
        Due.values(y, 0, 0, -5, 0, 5, -5, 5);
        y.keeper(0, 0, 12, 0);
        y.seal(0);
        DUE.is("10 least kept", y.about(0, 0, 6), 0);
        DUE.is("10 greatest owed", y.about(0, 0, 7), 1);
        y.change(0, 0, 0, 7);
        DUE.is("10 least was kept ahead of the change", y.about(0, 0, 6), 0);
        DUE.is("10 a change of a known row leaves it owed", y.about(0, 0, 7), 1);
        y.change(0, 0, 0, 5);
        DUE.is("10 a changed value is none as sealed", y.about(0, 0, 7), 1);
        y.change(0, 0, 1, 0);
        DUE.is("10 changed unseen", y.about(0, 0, 7), 0);
        DUE.is("10 still half", y.about(0, 0, 3), 3);
    }
}
