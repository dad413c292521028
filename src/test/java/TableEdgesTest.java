import java.util.function.Supplier;

/** Promises 1 to 10: a test for each sentence that names a boundary, and for each refusal and their order. */
public final class TableEdgesTest {
    private static final Due DUE = new Due();
    private static final Refusals NO = new Refusals(DUE);
    private static final int TOP = Stores.TOP, BOTTOM = Stores.BOTTOM;
    private static final int BAD = SpanStore.BAD, STATE = SpanStore.STATE, FULL = SpanStore.FULL;
    private static final Supplier<SpanStore> MIXED = Stores::mixed, OPEN = Stores::open;

    public static void main(String[] args) {
        newTables();
        newSheets();
        rowNumber();
        rowRefusals();
        loadLimits();
        loadItems();
        loadHowMany();
        loadBad();
        loadState();
        loadFull();
        loadNull();
        loadIndex();
        loadBadItem();
        keeperHowMany();
        keeperBad();
        keeperRefusals();
        sealKnown();
        sealRefusals();
        clearOpens();
        clearHadRows();
        clearBad();
        readHowMany();
        readRefusals();
        changeOne();
        changeBad();
        changeState();
        valueKnown();
        valueRefusals();
        aboutWithoutRows();
        aboutNotHalf();
        aboutGroups();
        aboutRefusals();
        DUE.end();
    }

    private static void newTables() {
        DUE.sentence("Promise 1: A new object", "Both TABLES are OPEN, without ROWS, KEEPERS");
        SpanStore x = new SpanStore();
        for (int what = 0; what <= 9; what++) {
            DUE.is("told(" + what + ")", x.told(what), 0);
        }
        for (int t = 0; t < 2; t++) {
            DUE.is("open", x.next(t, -1), STATE);
            DUE.is("no rows", x.clear(t), 0);
            for (int b = 0; b < 8; b++) {
                DUE.is("the first row of block " + b, x.row(t, b, 0, 0, 5), 0);
            }
            DUE.is("no keeper keeps any", x.seal(t), 0);
        }
        SpanStore y = new SpanStore();
        DUE.is("objects share nothing", y.told(0) + y.told(1) + y.told(4) + y.told(5), 0);
    }

    private static void newSheets() {
        DUE.sentence("Promise 1: A new object", "all SHEETS are LOST");
        for (int s = 0; s < 4; s++) {
            int it = s;
            NO.refused("lose(" + s + ")", SpanStore::new, x -> x.lose(it), Due.NULL);
            NO.refused("put of sheet " + s, SpanStore::new, x -> x.put(it, 0, 0, 0), Due.NULL);
        }
    }

    private static void rowNumber() {
        DUE.sentence("Promise 2: row", "A ROW more of a BLOCK: its number.");
        SpanStore x = new SpanStore();
        DUE.is("the first", x.row(0, 0, 0, 0, 0), 0);
        DUE.is("refused", x.row(0, 0, 100, 0, 0), BAD);
        DUE.is("the second, no number is left out", x.row(0, 0, 0, 0, 0), 1);
        DUE.is("another block", x.row(0, 7, 0, 0, 0), 0);
        DUE.is("the other table", x.row(1, 0, 0, 0, 0), 0);
        DUE.is("rows alike are more", x.row(0, 0, 0, 0, 0), 2);
        x.clear(0);
        DUE.is("cleared", x.row(0, 0, 0, 0, 0), 0);
    }

    private static void rowRefusals() {
        DUE.sentence("Promise 2: row", "BAD; STATE: SEALED; FULL.");
        NO.refused("a wrong key", MIXED, x -> x.row(1, 1, 100, 0, 0), BAD);
        NO.refused("a wrong group", MIXED, x -> x.row(1, 1, 0, 4, 0), BAD);
        NO.refused("a wrong value", MIXED, x -> x.row(1, 1, 0, 0, 1001), BAD);
        NO.refused("sealed", MIXED, x -> x.row(0, 1, 0, 0, 0), STATE);
        NO.refused("full", MIXED, x -> x.row(1, 0, 0, 0, 0), FULL);
        NO.refused("BAD ahead of STATE", MIXED, x -> x.row(0, 1, 0, -1, 0), BAD);
        NO.refused("BAD ahead of FULL", MIXED, x -> x.row(1, 0, -1, 0, 0), BAD);
        NO.refused("STATE ahead of FULL", MIXED, x -> x.row(0, 5, 0, 0, 0), STATE);
        NO.refused("BAD ahead of both", MIXED, x -> x.row(0, 5, 0, 0, -1001), BAD);
    }

    private static void loadLimits() {
        DUE.sentence("Promise 3: load", "n ROWS (1 to 12) more of a BLOCK");
        for (int n : new int[] {0, -1, 13, TOP, BOTTOM}) {
            NO.refused("n " + n, TableEdgesTest::longSheets, x -> x.load(0, 3, 0, 1, 2, n), BAD);
        }
        DUE.is("1", longSheets().load(0, 3, 0, 1, 2, 1), 1);
        DUE.is("12", longSheets().load(0, 3, 0, 1, 2, 12), 12);
    }

    /** Sheets 0 to 2 have 13 items of three forms, all 0 but the first, sheet 3 is lost. */
    private static SpanStore longSheets() {
        SpanStore x = new SpanStore();
        for (int s = 0; s < 3; s++) {
            x.sheet(s, s, 13);
            x.put(s, s, 0, 3 - s);
        }
        return x;
    }

    private static void loadItems() {
        DUE.sentence("Promise 3: load", "KEYS, GROUPS, VALUES by items 0 .. n - 1 of SHEETS k, g, v");
        int[][] orders = {{0, 1, 2}, {2, 0, 1}, {1, 2, 0}, {0, 0, 0}, {1, 1, 0}, {2, 1, 1}};
        for (int[] o : orders) {
            SpanStore x = new SpanStore();
            for (int s = 0; s < 3; s++) {
                x.sheet(s, s, 13);
                for (int i = 0; i < 13; i++) {
                    x.put(s, s, i, (i + s) % 4);
                }
            }
            x.load(0, 3, o[0], o[1], o[2], 12);
            x.seal(0);
            x.read(0, 3);
            for (int s = 0; s < 3; s++) {
                DUE.is("sheet " + s + " is as it was", x.get(s, s, 3), (3 + s) % 4);
                x.sheet(s, 2, 12);
            }
            x.write(0, 0, 1, 2);
            for (int i = 0; i < 12; i++) {
                DUE.is("key " + i, x.get(0, 2, i), (i + o[0]) % 4);
                DUE.is("group " + i, x.get(1, 2, i), (i + o[1]) % 4);
                DUE.is("value " + i, x.get(2, 2, i), (i + o[2]) % 4);
            }
        }
    }

    private static void loadHowMany() {
        DUE.sentence("Promise 3: load", "how many it has");
        SpanStore x = longSheets();
        DUE.is("into none", x.load(0, 3, 0, 1, 2, 2), 2);
        DUE.is("more", x.load(0, 3, 0, 1, 2, 3), 5);
        DUE.is("another block", x.load(0, 4, 0, 1, 2, 3), 3);
        x.row(0, 3, 0, 0, 0);
        DUE.is("behind a row", x.load(0, 3, 0, 1, 2, 6), 12);
        DUE.is("rows of the table", x.told(0), 15);
        DUE.is("the next row behind a load", x.row(0, 4, 0, 0, 0), 3);
    }

    private static void loadBad() {
        DUE.sentence("Promise 3: load", "BAD: TABLE, BLOCK, SHEETS, n");
        NO.refused("table 2", MIXED, x -> x.load(2, 1, 0, 1, 2, 1), BAD);
        NO.refused("block 8", MIXED, x -> x.load(1, 8, 0, 1, 2, 1), BAD);
        for (int s : new int[] {-1, 4, TOP, BOTTOM}) {
            NO.refused("k " + s, MIXED, x -> x.load(1, 1, s, 1, 2, 1), BAD);
            NO.refused("g " + s, MIXED, x -> x.load(1, 1, 0, s, 2, 1), BAD);
            NO.refused("v " + s, MIXED, x -> x.load(1, 1, 0, 1, s, 1), BAD);
            NO.refused("v " + s + " ahead of NULL", MIXED, x -> x.load(1, 1, 3, 3, s, 1), BAD);
            NO.refused("k " + s + " ahead of STATE", MIXED, x -> x.load(0, 1, s, 1, 2, 1), BAD);
            NO.refused("g " + s + " ahead of FULL", MIXED, x -> x.load(1, 0, 0, s, 2, 1), BAD);
        }
        NO.refused("n 0 ahead of STATE", MIXED, x -> x.load(0, 1, 0, 1, 2, 0), BAD);
        NO.refused("n 13 ahead of FULL", MIXED, x -> x.load(1, 0, 0, 1, 2, 13), BAD);
        NO.refused("n 13 ahead of NULL", MIXED, x -> x.load(1, 2, 3, 3, 3, 13), BAD);
        NO.refused("n 13 ahead of INDEX", MIXED, x -> x.load(1, 2, 0, 1, 2, 13), BAD);
    }

    private static void loadState() {
        DUE.sentence("Promise 3: load", "BAD: TABLE, BLOCK, SHEETS, n; STATE");
        NO.refused("sealed", MIXED, x -> x.load(0, 1, 0, 1, 2, 1), STATE);
        NO.refused("STATE ahead of FULL", MIXED, x -> x.load(0, 5, 0, 1, 2, 1), STATE);
        NO.refused("STATE ahead of NULL", MIXED, x -> x.load(0, 1, 3, 1, 2, 1), STATE);
        NO.refused("STATE ahead of INDEX", MIXED, x -> x.load(0, 1, 0, 1, 2, 12), STATE);
        NO.refused("STATE ahead of a wrong item", MIXED, x -> x.load(0, 1, 2, 1, 2, 1), STATE);
    }

    private static void loadFull() {
        DUE.sentence("Promise 3: load", "STATE; FULL");
        NO.refused("one more than 12", MIXED, x -> x.load(1, 0, 0, 1, 2, 1), FULL);
        NO.refused("3 and 10", MIXED, x -> x.load(1, 1, 0, 1, 2, 10), FULL);
        NO.refused("FULL ahead of NULL", MIXED, x -> x.load(1, 1, 0, 1, 3, 10), FULL);
        NO.refused("FULL ahead of INDEX", MIXED, x -> x.load(1, 1, 0, 1, 2, 12), FULL);
        NO.refused("FULL ahead of a wrong item", MIXED, x -> x.load(1, 0, 2, 1, 2, 1), FULL);
        DUE.is("3 and 9", Stores.mixed().load(1, 1, 0, 1, 2, 9), 12);
    }

    private static void loadNull() {
        DUE.sentence("Promise 3: load", "NULL: k, g, v");
        NO.refused("k", MIXED, x -> x.load(1, 2, 3, 1, 2, 1), Due.NULL);
        NO.refused("g", MIXED, x -> x.load(1, 2, 0, 3, 2, 1), Due.NULL);
        NO.refused("v", MIXED, x -> x.load(1, 2, 0, 1, 3, 1), Due.NULL);
        NO.refused("all", MIXED, x -> x.load(1, 2, 3, 3, 3, 1), Due.NULL);
        NO.refused("k ahead of INDEX of g", MIXED, x -> x.load(1, 2, 3, 1, 2, 12), Due.NULL);
        NO.refused("v ahead of INDEX of g", MIXED, x -> x.load(1, 2, 0, 1, 3, 12), Due.NULL);
        NO.refused("g ahead of a wrong key", MIXED, x -> x.load(1, 2, 2, 3, 2, 1), Due.NULL);
    }

    private static void loadIndex() {
        DUE.sentence("Promise 3: load", "INDEX: k, g, v have not so many");
        NO.refused("k", MIXED, x -> x.load(1, 2, 1, 0, 2, 12), Due.INDEX);
        NO.refused("g", MIXED, x -> x.load(1, 2, 0, 1, 2, 12), Due.INDEX);
        NO.refused("v", MIXED, x -> x.load(1, 2, 0, 2, 1, 12), Due.INDEX);
        NO.refused("a sheet of none", () -> withSheet(0), x -> x.load(1, 2, 0, 1, 3, 1), Due.INDEX);
        NO.refused("INDEX ahead of a wrong key", MIXED, x -> x.load(1, 2, 2, 1, 0, 12), Due.INDEX);
        NO.refused("one item less", () -> withSheet(4), x -> x.load(1, 2, 0, 1, 3, 5), Due.INDEX);
        DUE.is("just so many", withSheet(4).load(1, 2, 0, 1, 3, 4), 4);
    }

    /** Sheet 3 has so many ints, all 0. */
    private static SpanStore withSheet(int n) {
        SpanStore x = Stores.mixed();
        x.sheet(3, 2, n);
        return x;
    }

    /** Sheet 3 has 5 ints, all 0 but one. */
    private static SpanStore withItem(int i, int item) {
        SpanStore x = withSheet(5);
        x.put(3, 2, i, item);
        return x;
    }

    private static void loadBadItem() {
        DUE.sentence("Promise 3: load", "BAD: an item that is none");
        for (int i : new int[] {0, 3, 4}) {
            for (int item : new int[] {-1, 100}) {
                NO.refused("key " + i + " is " + item, () -> withItem(i, item), x -> x.load(1, 2, 3, 1, 2, 5), BAD);
            }
            for (int item : new int[] {-1, 4}) {
                NO.refused("group " + i + " is " + item, () -> withItem(i, item), x -> x.load(1, 2, 0, 3, 2, 5), BAD);
            }
            for (int item : new int[] {-1001, 1001}) {
                NO.refused("value " + i + " is " + item, () -> withItem(i, item), x -> x.load(1, 2, 0, 1, 3, 5), BAD);
            }
        }
        DUE.is("a wrong item behind those told", withItem(4, 1001).load(1, 2, 3, 3, 3, 4), 4);
    }

    private static void keeperHowMany() {
        DUE.sentence("Promise 4: keeper", "A KEEPER more: how many.");
        SpanStore x = new SpanStore();
        DUE.is("the first", x.keeper(0, 3, 1000, 0), 1);
        DUE.is("the second, just like it", x.keeper(0, 3, 1000, 0), 2);
        DUE.is("refused", x.keeper(0, 3, 1001, 0), BAD);
        DUE.is("the third", x.keeper(0, 2, 100, 99), 3);
        DUE.is("of the other table", x.keeper(1, 1, 12, 0), 1);
        DUE.is("the fourth", x.keeper(0, 0, 12, 0), 4);
        x.clear(0);
        DUE.is("cleared", x.keeper(0, 0, 12, 0), 1);
    }

    private static void keeperBad() {
        DUE.sentence("Promise 4: keeper", "BAD (b is 0, where it does not count)");
        for (int kind : new int[] {0, 1, 3}) {
            for (int b : new int[] {1, -1, TOP, BOTTOM}) {
                NO.refused("kind " + kind + ", b " + b, OPEN, x -> x.keeper(0, kind, 5, b), BAD);
            }
            DUE.is("kind " + kind + ", b 0", Stores.open().keeper(0, kind, 5, 0), 3);
        }
        DUE.is("kind 2, b 4", Stores.open().keeper(0, 2, 5, 4), 3);
    }

    private static void keeperRefusals() {
        DUE.sentence("Promise 4: keeper", "STATE: SEALED; FULL.");
        NO.refused("sealed", MIXED, x -> x.keeper(0, 0, 1, 0), STATE);
        NO.refused("full", MIXED, x -> x.keeper(1, 0, 1, 0), FULL);
        NO.refused("BAD ahead of STATE", MIXED, x -> x.keeper(0, 0, 13, 0), BAD);
        NO.refused("BAD ahead of FULL", MIXED, x -> x.keeper(1, 4, 1, 0), BAD);
        NO.refused("b that is BAD ahead of FULL", MIXED, x -> x.keeper(1, 0, 1, 1), BAD);
        NO.refused("STATE ahead of FULL", Stores::sealed, x -> x.keeper(1, 0, 1, 0), STATE);
    }

    private static void sealKnown() {
        DUE.sentence("Promise 5: seal", "A TABLE is SEALED: how many ROWS are KNOWN.");
        DUE.is("no rows", new SpanStore().seal(1), 0);
        SpanStore x = new SpanStore();
        x.keeper(0, 0, 1, 0);
        DUE.is("a keeper, but no rows", x.seal(0), 0);
        SpanStore y = new SpanStore();
        y.row(0, 0, 0, 0, 0);
        DUE.is("rows, but no keeper", y.seal(0), 0);
        SpanStore z = new SpanStore();
        for (int i = 0; i < 96; i++) {
            z.row(1, i / 12, 0, 0, 0);
        }
        z.keeper(1, 0, 1, 0);
        z.keeper(1, 1, 12, 0);
        DUE.is("all that there can be, each kept twice", z.seal(1), 96);
        DUE.is("open().seal(0)", Stores.open().seal(0), 7);
        DUE.is("sealed", z.told(5), 1);
        DUE.is("the other is not", z.told(4), 0);
    }

    private static void sealRefusals() {
        DUE.sentence("Promise 5: seal", "BAD; STATE: it is.");
        NO.refused("table 2", MIXED, x -> x.seal(2), BAD);
        NO.refused("table -1", MIXED, x -> x.seal(-1), BAD);
        NO.refused("sealed", MIXED, x -> x.seal(0), STATE);
        NO.refused("sealed and changed", TableEdgesTest::altered, x -> x.seal(0), STATE);
    }

    /** A sealed table with a row changed unseen, one that was known changed, and a block read. */
    private static SpanStore altered() {
        SpanStore x = Stores.mixed();
        x.change(0, 2, 1, 1000);
        x.change(0, 2, 0, -1000);
        x.read(0, 5);
        return x;
    }

    private static void clearOpens() {
        DUE.sentence("Promise 6: clear", "A TABLE is OPEN, without ROWS, KEEPERS");
        SpanStore x = altered();
        x.clear(0);
        DUE.is("open", x.told(4), 0);
        DUE.is("rows", x.told(0), 0);
        DUE.is("keepers", x.told(6), 0);
        DUE.is("known", x.told(8), 0);
        DUE.is("the other has its rows", x.told(1), 15);
        DUE.is("and its keepers", x.told(7), 4);
        DUE.is("sheets stay", x.get(0, 0, 1), 9);
        Due.values(x, 0, 2, 5, 6);
        DUE.is("no keeper keeps", x.seal(0), 0);
        DUE.is("count", x.about(0, 2, 0), 2);
        DUE.is("least", x.about(0, 2, 1), 5);
        DUE.is("greatest", x.about(0, 2, 2), 6);
        DUE.is("not known", x.about(0, 2, 3), 2);
        DUE.is("least is owed", x.about(0, 2, 6), 1);
        DUE.is("greatest is owed", x.about(0, 2, 7), 1);
        DUE.is("of group 0", x.about(0, 2, 10), 2);
        DUE.is("of group 1", x.about(0, 2, 11), 0);
        DUE.is("of a block that had rows", x.about(0, 5, 0), 0);
        DUE.is("its least", x.about(0, 5, 1), 0);
        x.seal(1);
        DUE.is("known ones that it had do not count", x.count(0, -1000, 1), 2);
        DUE.is("nor are they summed", x.sum(0, -1, 1), 11);
        DUE.is("nor joined", x.join(0), 0);
        DUE.is("nor written", x.write(0, 0, 0, 0), 0);
        DUE.is("a keeper that it had is none", x.part(5, 2), SpanStore.NOT);
    }

    private static void clearHadRows() {
        DUE.sentence("Promise 6: clear", "how many ROWS it had");
        DUE.is("open", Stores.open().clear(0), 17);
        DUE.is("sealed", Stores.mixed().clear(0), 17);
        DUE.is("the other", Stores.mixed().clear(1), 15);
        DUE.is("none", new SpanStore().clear(0), 0);
        SpanStore x = Stores.sealed();
        x.clear(0);
        DUE.is("again", x.clear(0), 0);
        x.seal(0);
        DUE.is("sealed without rows", x.clear(0), 0);
        DUE.is("and open again", x.told(4), 0);
    }

    private static void clearBad() {
        DUE.sentence("Promise 6: clear", "how many ROWS it had. BAD.");
        NO.refused("table 2", MIXED, x -> x.clear(2), BAD);
        NO.refused("table -1", MIXED, x -> x.clear(-1), BAD);
    }

    private static void readHowMany() {
        DUE.sentence("Promise 7: read", "A BLOCK is READ: how many ROWS of it were not KNOWN.");
        SpanStore x = Stores.mixed();
        DUE.is("3 of 5", x.read(0, 2), 3);
        DUE.is("again", x.read(0, 2), 0);
        DUE.is("no rows", x.read(0, 0), 0);
        x.change(0, 5, 1, 0);
        x.change(0, 5, 0, 0);
        DUE.is("7 of 12, one of which was changed", x.read(0, 5), 6);
        SpanStore y = Stores.block(new int[0][], 1, 2);
        y.change(0, 0, 0, 1);
        y.change(0, 0, 1, 2);
        DUE.is("all changed", y.read(0, 0), 0);
        DUE.is("all of twelve", Stores.block(new int[0][], 1, 2, 3, 4, 5, 6, 7, 8, 9, 10, 11, 12).read(0, 0), 12);
    }

    private static void readRefusals() {
        DUE.sentence("Promise 7: read", "BAD; STATE: OPEN.");
        NO.refused("block 8", MIXED, x -> x.read(0, 8), BAD);
        NO.refused("open", MIXED, x -> x.read(1, 0), STATE);
        NO.refused("open, no rows", SpanStore::new, x -> x.read(0, 7), STATE);
        NO.refused("BAD ahead of STATE", MIXED, x -> x.read(1, -1), BAD);
    }

    private static void changeOne() {
        DUE.sentence("Promise 8: change", "A ROW is CHANGED: 1.");
        SpanStore x = Stores.mixed();
        DUE.is("a known one", x.change(0, 2, 0, 1), 1);
        DUE.is("it has it", x.value(0, 2, 0), 1);
        DUE.is("one not known", x.change(0, 2, 4, 2), 1);
        DUE.is("it has it", x.value(0, 2, 4), 2);
        DUE.is("to what it has", x.change(0, 2, 4, 2), 1);
        x.read(0, 2);
        DUE.is("of a block that is read", x.change(0, 2, 4, -1000), 1);
        DUE.is("it has it", x.value(0, 2, 4), -1000);
        DUE.is("another stays", x.value(0, 2, 3), -130);
        DUE.is("of another block too", x.value(0, 5, 0), -400);
    }

    private static void changeBad() {
        DUE.sentence("Promise 8: change", "BAD: TABLE, BLOCK, no such ROW, VALUE");
        NO.refused("table 2", MIXED, x -> x.change(2, 2, 0, 0), BAD);
        NO.refused("block 8", MIXED, x -> x.change(0, 8, 0, 0), BAD);
        for (int row : new int[] {-1, 5, 12, TOP, BOTTOM}) {
            NO.refused("row " + row, MIXED, x -> x.change(0, 2, row, 0), BAD);
        }
        NO.refused("a block without rows", MIXED, x -> x.change(0, 3, 0, 0), BAD);
        NO.refused("value 1001", MIXED, x -> x.change(0, 2, 0, 1001), BAD);
        NO.refused("value -1001", MIXED, x -> x.change(0, 2, 1, -1001), BAD);
        DUE.is("the last row", Stores.mixed().change(0, 2, 4, 0), 1);
    }

    private static void changeState() {
        DUE.sentence("Promise 8: change", "no such ROW, VALUE; STATE: OPEN.");
        NO.refused("open", MIXED, x -> x.change(1, 0, 11, 0), STATE);
        NO.refused("no such row ahead of STATE", MIXED, x -> x.change(1, 1, 3, 0), BAD);
        NO.refused("the last row is there", MIXED, x -> x.change(1, 1, 2, 0), STATE);
        NO.refused("value ahead of STATE", MIXED, x -> x.change(1, 0, 0, 1001), BAD);
        NO.refused("block ahead of STATE", MIXED, x -> x.change(1, 8, 0, 0), BAD);
    }

    private static void valueKnown() {
        DUE.sentence("Promise 9: value", "The VALUE of a ROW that is KNOWN.");
        SpanStore x = Stores.block(new int[][] {{0, 2, 0}}, -1000, 1, 1000, 2, 0);
        DUE.is("the least there can be", x.value(0, 0, 0), -1000);
        DUE.is("the greatest there can be", x.value(0, 0, 2), 1000);
        DUE.is("the last", x.value(0, 0, 4), 0);
        x.change(0, 0, 3, 7);
        DUE.is("changed", x.value(0, 0, 3), 7);
        x.read(0, 0);
        DUE.is("read", x.value(0, 0, 1), 1);
        DUE.is("read behind a change", x.value(0, 0, 3), 7);
    }

    private static void valueRefusals() {
        DUE.sentence("Promise 9: value", "BAD (no such one); STATE: OPEN; NOT: it is not KNOWN: the least int each.");
        NO.refused("table 2", MIXED, x -> x.value(2, 2, 0), Due.LEAST_INT);
        NO.refused("block 8", MIXED, x -> x.value(0, 8, 0), Due.LEAST_INT);
        for (int row : new int[] {-1, 5, 12, TOP, BOTTOM}) {
            NO.refused("row " + row, MIXED, x -> x.value(0, 2, row), Due.LEAST_INT);
            NO.refused("open, row " + row, MIXED, x -> x.value(1, 1, row), Due.LEAST_INT);
        }
        NO.refused("a block without rows", MIXED, x -> x.value(0, 3, 0), Due.LEAST_INT);
        NO.refused("open", MIXED, x -> x.value(1, 0, 0), Due.LEAST_INT);
        NO.refused("not known", MIXED, x -> x.value(0, 2, 1), Due.LEAST_INT);
        SpanStore y = altered();
        y.clear(0);
        y.row(0, 5, 0, 0, 0);
        DUE.is("open again behind a read", y.value(0, 5, 0), Due.LEAST_INT);
    }

    private static void about(String when, SpanStore x, int block, int... due) {
        for (int what = 0; what < due.length; what++) {
            DUE.is(when + ": about " + what, x.about(0, block, what), due[what]);
        }
    }

    private static void aboutWithoutRows() {
        DUE.sentence("Promise 10: about", "0 COUNT, 1 LEAST, 2 GREATEST (0 without ROWS), 3 ROWS not KNOWN");
        SpanStore x = Stores.mixed();
        about("without rows", x, 3, 0, 0, 0, 0, 0, 0, 0, 0);
        about("half", x, 2, 5, -400, -40, 3, -400, -40, 0, 1);
        about("full", x, 5, 12, -1000, 500, 7);
        x.clear(0);
        Due.values(x, 0, 3, 9);
        x.seal(0);
        about("had rows", x, 2, 0, 0, 0, 0, 0, 0, 0, 0);
        about("one row", x, 3, 1, 9, 9, 1, 9, 9, 1, 1);
    }

    private static void aboutNotHalf() {
        DUE.sentence("Promise 10: about", "4 LOW, 5 HIGH (as in 2; 0 if it is not HALF), 6 whether LEAST is OWED, "
                + "7 GREATEST (1, 0; 0 if it is not HALF)");
        SpanStore x = Stores.block(new int[0][], 5, 6, 7);
        about("half", x, 0, 3, 5, 7, 3, 5, 7, 1, 1);
        x.read(0, 0);
        about("read", x, 0, 3, 5, 7, 0, 0, 0, 0, 0);
        SpanStore y = Stores.block(new int[][] {{0, 2, 0}}, 6, 5, 6, 7);
        about("half", y, 0, 4, 5, 7, 2, 5, 7, 1, 1);
        y.change(0, 0, 1, 5);
        about("half behind a change", y, 0, 4, 5, 7, 1, 5, 7, 0, 0);
        y.change(0, 0, 3, 7);
        about("all changed", y, 0, 4, 5, 7, 0, 0, 0, 0, 0);
        about("all kept", Stores.block(new int[][] {{0, 1, 0}}, 5, 7), 0, 2, 5, 7, 0, 0, 0, 0, 0);
    }

    private static void aboutGroups() {
        DUE.sentence("Promise 10: about", "10 + g ROWS of GROUP g");
        SpanStore x = Stores.sealed();
        int[] due = {3, 3, 3, 3};
        for (int g = 0; g < 4; g++) {
            DUE.is("group " + g + " of the full one", x.about(0, 5, 10 + g), due[g]);
            DUE.is("group " + g + " without rows", x.about(0, 3, 10 + g), 0);
        }
        DUE.is("group 0 of five", x.about(0, 2, 10), 2);
        DUE.is("group 3 of five", x.about(0, 2, 13), 1);
        DUE.is("group 3 of three", x.about(1, 1, 13), 0);
        DUE.is("group 0 of the other table", x.about(1, 0, 10), 4);
        x.change(0, 2, 0, 0);
        x.read(0, 2);
        DUE.is("read and changed", x.about(0, 2, 10), 2);
    }

    private static void aboutRefusals() {
        DUE.sentence("Promise 10: about", "BAD: the least int; so is STATE.");
        for (int what : new int[] {-1, 8, 9, 14, TOP, BOTTOM}) {
            NO.refused("what " + what, MIXED, x -> x.about(0, 2, what), Due.LEAST_INT);
        }
        NO.refused("table -1", MIXED, x -> x.about(-1, 2, 0), Due.LEAST_INT);
        NO.refused("block 8", MIXED, x -> x.about(0, 8, 0), Due.LEAST_INT);
        for (int what : new int[] {0, 3, 7, 10, 13}) {
            NO.refused("open, what " + what, MIXED, x -> x.about(1, 0, what), Due.LEAST_INT);
        }
        NO.refused("open, no rows", SpanStore::new, x -> x.about(0, 0, 0), Due.LEAST_INT);
    }
}
