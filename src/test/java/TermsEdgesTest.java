import java.util.function.Supplier;

/** The document's Terms, parts 1 and 2: a test for each sentence that names a boundary. */
public final class TermsEdgesTest {
    private static final Due DUE = new Due();
    private static final Refusals NO = new Refusals(DUE);
    private static final int TOP = Stores.TOP, BOTTOM = Stores.BOTTOM;
    private static final int BAD = SpanStore.BAD, STATE = SpanStore.STATE, FULL = SpanStore.FULL;
    private static final Supplier<SpanStore> MIXED = Stores::mixed;

    /** Twelve rows with each kind of neighbour: groups of 8, 3 and 1, far keys, values around 5 and the ends. */
    private static final int[][] TWELVE = {
        {0, 0, 5}, {1, 1, -5}, {2, 0, 4}, {3, 0, -4}, {99, 1, 1000}, {98, 2, -1000},
        {50, 0, 999}, {49, 1, -999}, {10, 0, 1}, {20, 0, -1}, {33, 0, 0}, {66, 0, 6},
    };

    public static void main(String[] args) {
        calls();
        tables();
        blocks();
        rowsOfBlock();
        keys();
        groups();
        values();
        openAtFirst();
        keepersAtMost();
        keepersToldWhileOpen();
        kinds();
        every();
        everyLimits();
        strata();
        strataLimits();
        keyed();
        keyedLimits();
        heavy();
        heavyLimits();
        sealingTells();
        someKeeperKeeps();
        read();
        changed();
        endsStay();
        half();
        DUE.end();
    }

    private static void calls() {
        DUE.sentence("What it is", "An object is used for at most 512 calls after it has been made");
        SpanStore x = new SpanStore();
        x.keeper(0, 0, 2, 0);
        Due.rows(x, 0, 7, TWELVE);
        x.seal(0);
        for (int i = 15; i <= 511; i++) {
            x.change(0, 7, 0, i);
        }
        DUE.is("the 512th call", x.value(0, 7, 0), 511);
    }

    private static void tables() {
        DUE.sentence("What it is", "TABLES 0 and 1");
        for (int t : new int[] {-1, 2, TOP, BOTTOM}) {
            NO.refused("row of table " + t, MIXED, x -> x.row(t, 1, 0, 0, 0), BAD);
            NO.refused("load of table " + t, MIXED, x -> x.load(t, 1, 0, 1, 2, 1), BAD);
            NO.refused("keeper of table " + t, MIXED, x -> x.keeper(t, 0, 1, 0), BAD);
            NO.refused("seal of table " + t, MIXED, x -> x.seal(t), BAD);
            NO.refused("clear of table " + t, MIXED, x -> x.clear(t), BAD);
            NO.refused("read of table " + t, MIXED, x -> x.read(t, 2), BAD);
            NO.refused("change of table " + t, MIXED, x -> x.change(t, 2, 0, 0), BAD);
            NO.refused("value of table " + t, MIXED, x -> x.value(t, 2, 0), Due.LEAST_INT);
            NO.refused("about table " + t, MIXED, x -> x.about(t, 2, 0), Due.LEAST_INT);
            NO.refused("sum of table " + t, MIXED, x -> x.sum(t, -1, 0), Due.LEAST_LONG);
            NO.refused("count of table " + t, MIXED, x -> x.count(t, 0, 0), BAD);
            NO.refused("next of table " + t, MIXED, x -> x.next(t, -1), BAD);
            NO.refused("refine of table " + t, MIXED, x -> x.refine(t, -1, 0), BAD);
            NO.refused("write of table " + t, MIXED, x -> x.write(t, 0, 1, 2), BAD);
        }
        SpanStore x = new SpanStore();
        x.row(0, 3, 0, 0, 7);
        DUE.is("table 1 has no row of table 0", x.row(1, 3, 0, 0, -7), 0);
        x.seal(0);
        DUE.is("table 1 is not sealed with table 0", x.keeper(1, 0, 1, 0), 1);
        x.seal(1);
        DUE.is("table 1 keeps", x.value(1, 3, 0), -7);
        DUE.is("table 0 does not", x.value(0, 3, 0), Due.LEAST_INT);
    }

    private static void blocks() {
        DUE.sentence("What it is", "BLOCKS 0 ..");
        for (int b : new int[] {-1, 8, TOP, BOTTOM}) {
            NO.refused("row of block " + b, MIXED, x -> x.row(1, b, 0, 0, 0), BAD);
            NO.refused("load of block " + b, MIXED, x -> x.load(1, b, 0, 1, 2, 1), BAD);
            NO.refused("read of block " + b, MIXED, x -> x.read(0, b), BAD);
            NO.refused("change of block " + b, MIXED, x -> x.change(0, b, 0, 0), BAD);
            NO.refused("value of block " + b, MIXED, x -> x.value(0, b, 0), Due.LEAST_INT);
            NO.refused("about block " + b, MIXED, x -> x.about(0, b, 0), Due.LEAST_INT);
        }
        for (int table = 0; table < 2; table++) {
            SpanStore x = new SpanStore();
            for (int b = 0; b < 8; b++) {
                DUE.is("first row of block " + b, x.row(table, b, 0, 0, 10 * b), 0);
            }
            x.seal(table);
            for (int b = 0; b < 8; b++) {
                DUE.is("read block " + b, x.read(table, b), 1);
                DUE.is("value of block " + b, x.value(table, b, 0), 10 * b);
            }
        }
    }

    private static void rowsOfBlock() {
        DUE.sentence("Terms", "each with up to 12 ROWS, numbered from 0");
        SpanStore x = new SpanStore();
        for (int i = 0; i < 12; i++) {
            DUE.is("row " + i, x.row(1, 7, 0, 0, 100 + i), i);
        }
        DUE.is("a thirteenth", x.row(1, 7, 0, 0, 0), FULL);
        DUE.is("rows", x.told(1), 12);
        DUE.is("the next block has room", x.row(1, 6, 0, 0, 0), 0);
        x.seal(1);
        x.read(1, 7);
        DUE.is("the first", x.value(1, 7, 0), 100);
        DUE.is("the last", x.value(1, 7, 11), 111);
        for (int row : new int[] {-1, 12, 13, TOP, BOTTOM}) {
            DUE.is("value of row " + row, x.value(1, 7, row), Due.LEAST_INT);
            DUE.is("change of row " + row, x.change(1, 7, row, 0), BAD);
        }
        DUE.is("change of the last", x.change(1, 7, 11, 0), 1);
        DUE.is("a row of the next block that it has not", x.value(1, 6, 1), Due.LEAST_INT);
    }

    /** Each of the numbers as an item of a row, by row and by load. */
    private static void rowItem(String name, int place, int[] wrong, int[] right) {
        for (int v : wrong) {
            int[] r = {5, 1, 50};
            r[place] = v;
            NO.refused("row with " + name + " " + v, MIXED, x -> x.row(1, 1, r[0], r[1], r[2]), BAD);
            Supplier<SpanStore> told = () -> withItems(r);
            NO.refused("load with " + name + " " + v, told, x -> x.load(0, 1, 0, 1, 2, 1), BAD);
        }
        for (int v : right) {
            int[] r = {5, 1, 50};
            r[place] = v;
            SpanStore x = withItems(r);
            DUE.is("row with " + name + " " + v, x.row(0, 1, r[0], r[1], r[2]), 0);
            DUE.is("load with " + name + " " + v, x.load(0, 1, 0, 1, 2, 1), 2);
            x.seal(0);
            x.read(0, 1);
            x.write(0, 0, 1, 2);
            DUE.is(name + " by row", x.get(place, 2, 0), v);
            DUE.is(name + " by load", x.get(place, 2, 1), v);
        }
    }

    private static SpanStore withItems(int[] r) {
        SpanStore x = new SpanStore();
        for (int s = 0; s < 3; s++) {
            x.sheet(s, 2, 2);
            x.put(s, 2, 0, r[s]);
        }
        return x;
    }

    private static void keys() {
        DUE.sentence("Terms", "a KEY (0 to 99)");
        rowItem("key", 0, new int[] {-1, 100, 127, TOP}, new int[] {0, 1, 98, 99});
    }

    private static void groups() {
        DUE.sentence("Terms", "a GROUP (0 to 3)");
        rowItem("group", 1, new int[] {-1, 4, TOP}, new int[] {0, 1, 2, 3});
    }

    private static void values() {
        DUE.sentence("Terms", "a VALUE (-1000 to 1000)");
        rowItem("value", 2, new int[] {-1001, 1001, TOP}, new int[] {-1000, -999, 0, 999, 1000});
        for (int v : new int[] {-1001, 1001, TOP, BOTTOM}) {
            NO.refused("change to " + v, MIXED, x -> x.change(0, 2, 0, v), BAD);
        }
        SpanStore x = Stores.mixed();
        for (int v : new int[] {-1000, 1000}) {
            DUE.is("change to " + v, x.change(0, 2, 0, v), 1);
            DUE.is("changed to " + v, x.value(0, 2, 0), v);
        }
        NO.refused("row of the least int", MIXED, y -> y.row(1, 1, 0, 0, BOTTOM), BAD);
    }

    private static void openAtFirst() {
        DUE.sentence("Terms", "A TABLE is OPEN (at first), or SEALED.");
        SpanStore x = new SpanStore();
        for (int t = 0; t < 2; t++) {
            DUE.is("at first", x.told(4 + t), 0);
            DUE.is("open: about", x.about(t, 0, 0), Due.LEAST_INT);
            x.seal(t);
            DUE.is("sealed", x.told(4 + t), 1);
            DUE.is("sealed: about", x.about(t, 0, 0), 0);
            DUE.is("sealed: row", x.row(t, 0, 0, 0, 0), STATE);
        }
    }

    private static void keepersAtMost() {
        DUE.sentence("Terms", "KEEPERS of a TABLE, 4 at most");
        SpanStore x = new SpanStore();
        for (int t = 0; t < 2; t++) {
            for (int i = 1; i <= 4; i++) {
                DUE.is("keeper " + i + ", all alike", x.keeper(t, 0, 5, 0), i);
            }
            DUE.is("a fifth", x.keeper(t, 0, 5, 0), FULL);
            DUE.is("a fifth of another kind", x.keeper(t, 3, 1, 0), FULL);
            DUE.is("keepers", x.told(6 + t), 4);
        }
        Due.values(x, 0, 0, 1, 2, 3);
        DUE.is("the fifth keeps nothing", x.seal(0), 1);
        SpanStore y = new SpanStore();
        Due.rows(y, 0, 0, TWELVE);
        int[][] four = {{2, 100, 1}, {2, 100, 2}, {2, 100, 3}, {2, 100, 99}};
        for (int[] k : four) {
            y.keeper(0, k[0], k[1], k[2]);
        }
        y.seal(0);
        DUE.is("each of the four keeps", known(y, 0), 0b11110);
    }

    private static void keepersToldWhileOpen() {
        DUE.sentence("Terms", "told while it is OPEN");
        NO.refused("keeper of a sealed table", MIXED, x -> x.keeper(0, 0, 1, 0), STATE);
        SpanStore x = new SpanStore();
        DUE.is("ahead of any row", x.keeper(0, 0, 2, 0), 1);
        Due.values(x, 0, 0, 1, 2, 3);
        DUE.is("behind rows", x.keeper(0, 3, 2, 0), 2);
        Due.values(x, 0, 0, 1);
        x.seal(0);
        DUE.is("both keep rows from before and behind", known(x, 0), 0b0111);
        x.clear(0);
        DUE.is("open again", x.keeper(0, 0, 2, 0), 1);
    }

    /** A bit for each row of a block of table 0 that is known. */
    private static int known(SpanStore x, int block) {
        int bits = 0;
        for (int row = 0; row < 12; row++) {
            bits |= x.value(0, block, row) != Due.LEAST_INT ? 1 << row : 0;
        }
        return bits;
    }

    /** Which of the twelve rows one keeper keeps, in a block behind others with rows. */
    private static void keeps(int kind, int a, int b, int due) {
        SpanStore x = new SpanStore();
        Due.values(x, 0, 0, 1, 2, 3, 4, 5);
        Due.rows(x, 0, 3, TWELVE);
        Due.rows(x, 0, 4, TWELVE);
        DUE.is("keeper(0, " + kind + ", " + a + ", " + b + ")", x.keeper(0, kind, a, b), 1);
        x.seal(0);
        DUE.is("rows that kind " + kind + " of " + a + ", " + b + " keeps", known(x, 3), due);
        DUE.is("and of the next block", known(x, 4), due);
    }

    private static void badKeepers(int[][] wrong) {
        for (int[] k : wrong) {
            String call = "keeper(0, " + k[0] + ", " + k[1] + ", " + k[2] + ")";
            NO.refused(call, Stores::open, x -> x.keeper(0, k[0], k[1], k[2]), BAD);
        }
    }

    private static void kinds() {
        DUE.sentence("Terms", "0 EVERY a");
        badKeepers(new int[][] {{-1, 1, 0}, {4, 1, 0}, {TOP, 1, 0}, {BOTTOM, 1, 0}});
    }

    private static void every() {
        DUE.sentence("Terms", "ROWS 0, a, 2 a .. of a BLOCK");
        keeps(0, 1, 0, 0b111111111111);
        keeps(0, 2, 0, 0b010101010101);
        keeps(0, 5, 0, 0b010000100001);
        keeps(0, 6, 0, 0b000001000001);
        keeps(0, 11, 0, 0b100000000001);
        keeps(0, 12, 0, 0b000000000001);
    }

    private static void everyLimits() {
        DUE.sentence("Terms", "EVERY a (1 to 12)");
        badKeepers(new int[][] {{0, 0, 0}, {0, 13, 0}, {0, -1, 0}, {0, TOP, 0}, {0, BOTTOM, 0}});
        DUE.is("1", new SpanStore().keeper(0, 0, 1, 0), 1);
        DUE.is("12", new SpanStore().keeper(0, 0, 12, 0), 1);
    }

    private static void strata() {
        DUE.sentence("Terms", "the first a ROWS of each GROUP in a BLOCK");
        keeps(1, 1, 0, 0b000000100011);
        keeps(1, 2, 0, 0b000000110111);
        keeps(1, 3, 0, 0b000010111111);
        keeps(1, 7, 0, 0b011111111111);
        keeps(1, 8, 0, 0b111111111111);
        keeps(1, 12, 0, 0b111111111111);
        SpanStore x = new SpanStore();
        for (int i = 0; i < 12; i++) {
            x.row(0, 0, 0, 3, i);
        }
        x.keeper(0, 1, 11, 0);
        x.seal(0);
        DUE.is("11 of 12 of one group", known(x, 0), 0b011111111111);
    }

    private static void strataLimits() {
        DUE.sentence("Terms", "STRATA a (1 to 12)");
        badKeepers(new int[][] {{1, 0, 0}, {1, 13, 0}, {1, -1, 0}, {1, TOP, 0}, {1, BOTTOM, 0}});
        DUE.is("1", new SpanStore().keeper(0, 1, 1, 0), 1);
        DUE.is("12", new SpanStore().keeper(0, 1, 12, 0), 1);
    }

    private static void keyed() {
        DUE.sentence("Terms", "ROWS whose KEY is b modulo a");
        keeps(2, 1, 0, 0b111111111111);
        keeps(2, 2, 1, 0b010010011010);
        keeps(2, 2, 0, 0b101101100101);
        keeps(2, 50, 0, 0b000001000001);
        keeps(2, 50, 49, 0b000010010000);
        keeps(2, 99, 0, 0b000000010001);
        keeps(2, 100, 0, 0b000000000001);
        keeps(2, 100, 99, 0b000000010000);
        keeps(2, 100, 4, 0);
    }

    private static void keyedLimits() {
        DUE.sentence("Terms", "KEYED a, b (a 1 to 100, b 0 to a - 1)");
        badKeepers(new int[][] {
            {2, 0, 0}, {2, 101, 0}, {2, -1, 0}, {2, TOP, 0}, {2, BOTTOM, 0}, {2, 1, 1}, {2, 1, -1}, {2, 5, 5},
            {2, 5, -1}, {2, 5, 6}, {2, 100, 100}, {2, 100, TOP}, {2, 100, BOTTOM}, {2, 0, -1}, {2, BOTTOM, BOTTOM},
        });
        int[][] right = {{1, 0}, {2, 0}, {2, 1}, {5, 4}, {100, 0}, {100, 99}};
        for (int[] k : right) {
            DUE.is("keeper(0, 2, " + k[0] + ", " + k[1] + ")", new SpanStore().keeper(0, 2, k[0], k[1]), 1);
        }
    }

    private static void heavy() {
        DUE.sentence("Terms", "ROWS whose VALUE is a or more in amount");
        keeps(3, 1, 0, 0b101111111111);
        keeps(3, 2, 0, 0b100011111111);
        keeps(3, 5, 0, 0b100011110011);
        keeps(3, 6, 0, 0b100011110000);
        keeps(3, 7, 0, 0b000011110000);
        keeps(3, 999, 0, 0b000011110000);
        keeps(3, 1000, 0, 0b000000110000);
    }

    private static void heavyLimits() {
        DUE.sentence("Terms", "HEAVY a (1 to 1000)");
        badKeepers(new int[][] {{3, 0, 0}, {3, 1001, 0}, {3, -1, 0}, {3, TOP, 0}, {3, BOTTOM, 0}});
        DUE.is("1", new SpanStore().keeper(0, 3, 1, 0), 1);
        DUE.is("1000", new SpanStore().keeper(0, 3, 1000, 0), 1);
    }

    private static void facts(String when, SpanStore x, int block, int... due) {
        int[] what = {0, 1, 2, 10, 11, 12, 13};
        for (int i = 0; i < what.length; i++) {
            DUE.is(when + ": about(0, " + block + ", " + what[i] + ")", x.about(0, block, what[i]), due[i]);
        }
    }

    private static void sealingTells() {
        DUE.sentence("Terms", "SEALING tells of each BLOCK with ROWS its COUNT, the LEAST and the GREATEST VALUE, "
                + "how many ROWS of each GROUP it has");
        SpanStore x = new SpanStore();
        Due.rows(x, 0, 0, TWELVE);
        Due.rows(x, 0, 2, new int[][] {{0, 3, -7}});
        Due.rows(x, 0, 6, new int[][] {{0, 3, 9}, {0, 2, 8}, {0, 3, 8}});
        Due.rows(x, 0, 7, new int[][] {{0, 0, -9}, {0, 1, -8}});
        x.keeper(0, 0, 2, 0);
        x.seal(0);
        facts("twelve rows", x, 0, 12, -1000, 1000, 8, 3, 1, 0);
        facts("no row", x, 1, 0, 0, 0, 0, 0, 0, 0);
        facts("one row", x, 2, 1, -7, -7, 0, 0, 0, 1);
        facts("all above 0, the least not known", x, 6, 3, 8, 9, 0, 0, 1, 2);
        facts("all below 0, the greatest not known", x, 7, 2, -9, -8, 1, 1, 0, 0);
    }

    private static void someKeeperKeeps() {
        DUE.sentence("Terms", "ROWS that some KEEPER keeps are KNOWN, the others are not");
        SpanStore x = new SpanStore();
        Due.rows(x, 0, 0, TWELVE);
        x.keeper(0, 0, 5, 0);
        x.keeper(0, 3, 999, 0);
        x.keeper(0, 2, 2, 1);
        DUE.is("one that two keep counts once", x.seal(0), 8);
        DUE.is("what some keep", known(x, 0), 0b010011111011);
        SpanStore y = new SpanStore();
        Due.rows(y, 0, 0, TWELVE);
        DUE.is("without keepers", y.seal(0), 0);
        DUE.is("none", known(y, 0), 0);
        SpanStore z = new SpanStore();
        Due.rows(z, 0, 0, TWELVE);
        z.keeper(1, 0, 1, 0);
        z.seal(0);
        DUE.is("a keeper of the other table keeps none", known(z, 0), 0);
    }

    private static void read() {
        DUE.sentence("Terms", "a BLOCK can be READ (all its ROWS are KNOWN then)");
        SpanStore x = new SpanStore();
        Due.rows(x, 0, 0, TWELVE);
        Due.rows(x, 0, 1, TWELVE);
        x.keeper(0, 0, 11, 0);
        x.seal(0);
        x.change(0, 0, 1, 77);
        x.read(0, 0);
        DUE.is("all known", known(x, 0), 0b111111111111);
        DUE.is("one that was changed", x.value(0, 0, 1), 77);
        DUE.is("one that was not", x.value(0, 0, 2), 4);
        DUE.is("another block", known(x, 1), 0b100000000001);
    }

    private static void changed() {
        DUE.sentence("Terms", "one that is CHANGED is KNOWN from then on");
        SpanStore x = new SpanStore();
        Due.rows(x, 0, 0, TWELVE);
        x.seal(0);
        x.change(0, 0, 11, -1000);
        DUE.is("it alone", known(x, 0), 0b100000000000);
        DUE.is("its value", x.value(0, 0, 11), -1000);
        x.change(0, 0, 0, 5);
        DUE.is("to the value that it had", known(x, 0), 0b100000000001);
        x.change(0, 0, 11, 1000);
        DUE.is("changed again", x.value(0, 0, 11), 1000);
        DUE.is("known rows", x.told(8), 2);
        DUE.is("not known", x.about(0, 0, 3), 10);
    }

    private static void endsStay() {
        DUE.sentence("Terms", "LEAST and GREATEST stay what they were told");
        SpanStore x = new SpanStore();
        Due.values(x, 0, 0, -5, 1, 2, 5);
        x.seal(0);
        x.change(0, 0, 1, -1000);
        x.change(0, 0, 2, 1000);
        facts("changed beyond them", x, 0, 4, -5, 5, 4, 0, 0, 0);
        DUE.is("low", x.about(0, 0, 4), -5);
        DUE.is("high", x.about(0, 0, 5), 5);
        x.change(0, 0, 0, 0);
        facts("the least one changed", x, 0, 4, -5, 5, 4, 0, 0, 0);
        x.read(0, 0);
        facts("read", x, 0, 4, -5, 5, 4, 0, 0, 0);
        x.change(0, 0, 3, 0);
        facts("read, the greatest one changed", x, 0, 4, -5, 5, 4, 0, 0, 0);
    }

    private static void isHalf(String when, SpanStore x, int notKnown, int low, int high) {
        DUE.is(when + ": not known", x.about(0, 0, 3), notKnown);
        DUE.is(when + ": low", x.about(0, 0, 4), low);
        DUE.is(when + ": high", x.about(0, 0, 5), high);
    }

    private static void half() {
        DUE.sentence("Terms", "A BLOCK that is not all KNOWN is HALF.");
        isHalf("without rows", Stores.block(new int[0][]), 0, 0, 0);
        isHalf("none known", Stores.block(new int[0][], 3, 4), 2, 3, 4);
        isHalf("all kept", Stores.block(new int[][] {{0, 1, 0}}, 3, 4), 0, 0, 0);
        SpanStore x = Stores.block(new int[][] {{0, 2, 0}}, 3, 4, 5, 6);
        isHalf("two kept", x, 2, 3, 6);
        x.change(0, 0, 0, 9);
        isHalf("one changed that was known", x, 2, 3, 6);
        x.change(0, 0, 3, 9);
        isHalf("one not known", x, 1, 3, 6);
        x.change(0, 0, 1, 9);
        isHalf("the last one changed", x, 0, 0, 0);
        SpanStore y = Stores.block(new int[0][], 3, 4, 5);
        y.read(0, 0);
        isHalf("read", y, 0, 0, 0);
        y.change(0, 0, 2, 7);
        isHalf("changed behind the read", y, 0, 0, 0);
    }
}
