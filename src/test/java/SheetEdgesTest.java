import java.util.function.Supplier;

/** The document's Terms, part 4, and promises 17 to 22: a test for each sentence that names a boundary. */
public final class SheetEdgesTest {
    private static final Due DUE = new Due();
    private static final Refusals NO = new Refusals(DUE);
    private static final int TOP = Stores.TOP, BOTTOM = Stores.BOTTOM;
    private static final int BAD = SpanStore.BAD, STATE = SpanStore.STATE;
    private static final Supplier<SpanStore> MIXED = Stores::mixed, OPEN = Stores::open;

    public static void main(String[] args) {
        sheetNumbers();
        lostAtFirst();
        forms();
        items();
        zeroAtFirst();
        newRow();
        sheetBad();
        sheetSize();
        loseHowMany();
        loseRefusals();
        putOne();
        lowestBits();
        putRefusals();
        getItem();
        getRefusals();
        copyItems();
        copyInItself();
        copyBad();
        copyNull();
        copyStore();
        copyBelowZero();
        copyNotSoMany();
        writeOrder();
        writeLowestBits();
        writeFromItemZero();
        writeTwice();
        writeShortest();
        writeRefusals();
        DUE.end();
    }

    private static void sheetNumbers() {
        DUE.sentence("Terms", "SHEETS 0 .. 3");
        for (int s : new int[] {-1, 4, TOP, BOTTOM}) {
            NO.refused("sheet " + s, MIXED, x -> x.sheet(s, 0, 1), BAD);
            NO.refused("lose " + s, MIXED, x -> x.lose(s), BAD);
            NO.refused("put " + s, MIXED, x -> x.put(s, 0, 0, 0), BAD);
            NO.refused("get " + s, MIXED, x -> x.get(s, 0, 0), Due.LEAST_INT);
            NO.refused("copy from " + s, MIXED, x -> x.copy(s, 0, 0, 0, 1), BAD);
            NO.refused("copy to " + s, MIXED, x -> x.copy(0, 0, s, 0, 1), BAD);
            NO.refused("load k " + s, MIXED, x -> x.load(1, 1, s, 1, 2, 1), BAD);
            NO.refused("load g " + s, MIXED, x -> x.load(1, 1, 0, s, 2, 1), BAD);
            NO.refused("load v " + s, MIXED, x -> x.load(1, 1, 0, 1, s, 1), BAD);
            NO.refused("write k " + s, MIXED, x -> x.write(0, s, 1, 2), BAD);
            NO.refused("write g " + s, MIXED, x -> x.write(0, 0, s, 2), BAD);
            NO.refused("write v " + s, MIXED, x -> x.write(0, 0, 1, s), BAD);
        }
        SpanStore x = new SpanStore();
        for (int s = 0; s < 4; s++) {
            x.sheet(s, 2, 1);
            x.put(s, 2, 0, 10 + s);
        }
        for (int s = 0; s < 4; s++) {
            DUE.is("each has its own item", x.get(s, 2, 0), 10 + s);
        }
    }

    private static void lostAtFirst() {
        DUE.sentence("Terms", "are LOST (at first) or a row of a FORM");
        for (int s = 0; s < 4; s++) {
            int it = s;
            NO.refused("lost at first", SpanStore::new, x -> x.put(it, 0, 0, 0), Due.NULL);
            SpanStore x = new SpanStore();
            x.sheet(s, 0, 1);
            DUE.is("a row", x.put(s, 0, 0, 0), 1);
            x.lose(s);
            DUE.is("lost again", x.put(s, 0, 0, 0), Due.NULL);
        }
    }

    private static void forms() {
        DUE.sentence("Terms", "a FORM: 0 bytes, 1 shorts, 2 ints");
        for (int form : new int[] {-1, 3, TOP, BOTTOM}) {
            NO.refused("sheet of form " + form, MIXED, x -> x.sheet(0, form, 1), BAD);
            NO.refused("put as of form " + form, MIXED, x -> x.put(0, form, 0, 0), BAD);
            NO.refused("get as of form " + form, MIXED, x -> x.get(0, form, 0), Due.LEAST_INT);
        }
        for (int form = 0; form < 3; form++) {
            SpanStore x = new SpanStore();
            x.sheet(1, form, 1);
            for (int as = 0; as < 3; as++) {
                DUE.is("form " + form + " as of " + as, x.put(1, as, 0, 1), as == form ? 1 : Due.CAST);
            }
        }
    }

    private static void items() {
        DUE.sentence("Terms", "of 0 to 40 items");
        for (int form = 0; form < 3; form++) {
            SpanStore x = new SpanStore();
            DUE.is("of none", x.sheet(0, form, 0), 0);
            DUE.is("no item", x.put(0, form, 0, 1), Due.INDEX);
            DUE.is("of 1", x.sheet(1, form, 1), 1);
            DUE.is("its item", x.put(1, form, 0, 1), 1);
            DUE.is("no second", x.put(1, form, 1, 1), Due.INDEX);
            DUE.is("of 40", x.sheet(2, form, 40), 40);
            DUE.is("the last", x.put(2, form, 39, 1), 1);
            DUE.is("one more", x.put(2, form, 40, 1), Due.INDEX);
            DUE.is("of 41", x.sheet(3, form, 41), BAD);
            DUE.is("none", x.put(3, form, 0, 1), Due.NULL);
        }
    }

    private static void zeroAtFirst() {
        DUE.sentence("Terms", "(0 at first)");
        for (int form = 0; form < 3; form++) {
            SpanStore x = new SpanStore();
            x.sheet(0, form, 40);
            for (int i = 0; i < 40; i++) {
                DUE.is("item " + i, x.get(0, form, i), 0);
                x.put(0, form, i, -1);
            }
            x.sheet(0, form, 40);
            for (int i = 0; i < 40; i++) {
                DUE.is("item " + i + " anew", x.get(0, form, i), 0);
                x.put(0, form, i, -1);
            }
            x.lose(0);
            x.sheet(0, form, 2);
            x.sheet(0, form, 40);
            for (int i = 0; i < 40; i++) {
                DUE.is("item " + i + " behind a loss and a shorter one", x.get(0, form, i), 0);
            }
        }
    }

    private static void newRow() {
        DUE.sentence("Promise 17: sheet", "A SHEET is a new row of a FORM with n items: n.");
        SpanStore x = Stores.mixed();
        DUE.is("shorter, of another form", x.sheet(0, 2, 3), 3);
        DUE.is("no longer bytes", x.get(0, 0, 0), Due.LEAST_INT);
        DUE.is("CAST", x.told(3), 3);
        DUE.is("what was there is not", x.get(0, 2, 1), 0);
        DUE.is("no more items", x.put(0, 2, 3, 0), Due.INDEX);
        x.put(0, 2, 0, TOP);
        DUE.is("an int", x.get(0, 2, 0), TOP);
        DUE.is("longer, of bytes", x.sheet(0, 0, 40), 40);
        x.put(0, 0, 39, TOP);
        DUE.is("a byte", x.get(0, 0, 39), -1);
        DUE.is("another sheet stays", x.get(2, 2, 1), -310);
        DUE.is("one that was lost", x.sheet(3, 1, 5), 5);
        DUE.is("is there", x.lose(3), 5);
    }

    private static void sheetBad() {
        DUE.sentence("Promise 17: sheet", "BAD: SHEET, FORM, above 40");
        for (int n : new int[] {41, 42, TOP}) {
            NO.refused("n " + n, MIXED, x -> x.sheet(0, 0, n), BAD);
            NO.refused("n " + n + " of one that is lost", MIXED, x -> x.sheet(3, 0, n), BAD);
        }
        NO.refused("sheet 4 ahead of SIZE", MIXED, x -> x.sheet(4, 0, -1), BAD);
        NO.refused("sheet -1 ahead of SIZE", MIXED, x -> x.sheet(-1, 0, -1), BAD);
        NO.refused("form 3 ahead of SIZE", MIXED, x -> x.sheet(0, 3, -1), BAD);
        NO.refused("form -1 ahead of SIZE", MIXED, x -> x.sheet(0, -1, -1), BAD);
        NO.refused("form 3 of one that is lost", MIXED, x -> x.sheet(3, 3, 1), BAD);
    }

    private static void sheetSize() {
        DUE.sentence("Terms", "5 SIZE: below 0");
        for (int n : new int[] {-1, -2, -41, BOTTOM}) {
            NO.refused("n " + n, MIXED, x -> x.sheet(0, 0, n), Due.SIZE);
            NO.refused("n " + n + " of another form", MIXED, x -> x.sheet(1, 2, n), Due.SIZE);
            NO.refused("n " + n + " of one that is lost", MIXED, x -> x.sheet(3, 1, n), Due.SIZE);
        }
        DUE.is("0 is not below", new SpanStore().sheet(0, 0, 0), 0);
    }

    private static void loseHowMany() {
        DUE.sentence("Promise 18: lose", "It is LOST: how many items it had.");
        for (int n : new int[] {0, 1, 39, 40}) {
            SpanStore x = new SpanStore();
            x.sheet(2, 1, n);
            DUE.is("of " + n, x.lose(2), n);
            DUE.is("lost", x.get(2, 1, 0), Due.LEAST_INT);
            DUE.is("NULL", x.told(3), 1);
        }
        SpanStore x = Stores.mixed();
        x.lose(0);
        DUE.is("another stays", x.lose(1), 11);
        x.sheet(0, 0, 2);
        DUE.is("made anew", x.lose(0), 2);
    }

    private static void loseRefusals() {
        DUE.sentence("Promise 18: lose", "BAD; NULL.");
        NO.refused("sheet 4", MIXED, x -> x.lose(4), BAD);
        NO.refused("sheet -1", MIXED, x -> x.lose(-1), BAD);
        NO.refused("lost at first", MIXED, x -> x.lose(3), Due.NULL);
        NO.refused("lost since", SheetEdgesTest::lostZero, x -> x.lose(0), Due.NULL);
    }

    /** Sheet 0 was of bytes and is lost. */
    private static SpanStore lostZero() {
        SpanStore x = Stores.mixed();
        x.lose(0);
        return x;
    }

    private static void putOne() {
        DUE.sentence("Promise 19: put", "Item i, treated as of a FORM, becomes v");
        SpanStore x = Stores.mixed();
        DUE.is("the first", x.put(0, 0, 0, 7), 1);
        DUE.is("the last", x.put(0, 0, 11, 8), 1);
        DUE.is("the first has it", x.get(0, 0, 0), 7);
        DUE.is("the last has it", x.get(0, 0, 11), 8);
        DUE.is("the next stays", x.get(0, 0, 1), 9);
        DUE.is("again", x.put(0, 0, 0, -7), 1);
        DUE.is("the later one", x.get(0, 0, 0), -7);
        DUE.is("no finding", x.told(3), 0);
    }

    private static void lowestBits() {
        DUE.sentence("Promise 19: put", "(the lowest bits that it has)");
        int[][] due = {
            {127, 127, 127}, {128, -128, 128}, {-128, -128, -128}, {-129, 127, -129}, {255, -1, 255}, {256, 0, 256},
            {32767, -1, 32767}, {32768, 0, -32768}, {-32768, 0, -32768}, {-32769, -1, 32767}, {65535, -1, -1},
            {65536, 0, 0}, {TOP, -1, -1}, {BOTTOM, 0, 0}, {0x12345678, 0x78, 0x5678}, {0x0000ABCD, -51, -21555},
        };
        for (int[] d : due) {
            SpanStore x = new SpanStore();
            for (int form = 0; form < 3; form++) {
                x.sheet(form, form, 3);
                DUE.is("put " + d[0], x.put(form, form, 1, d[0]), 1);
                DUE.is(d[0] + " in form " + form, x.get(form, form, 1), form < 2 ? d[form + 1] : d[0]);
                DUE.is("the one ahead", x.get(form, form, 0), 0);
                DUE.is("the one behind", x.get(form, form, 2), 0);
            }
        }
    }

    private static void putRefusals() {
        DUE.sentence("Promise 19: put", "BAD; NULL; CAST; INDEX.");
        NO.refused("form 3", MIXED, x -> x.put(0, 3, 0, 5), BAD);
        NO.refused("lost", MIXED, x -> x.put(3, 0, 0, 5), Due.NULL);
        NO.refused("another form", MIXED, x -> x.put(0, 1, 0, 5), Due.CAST);
        NO.refused("another form", MIXED, x -> x.put(2, 0, 0, 5), Due.CAST);
        for (int i : new int[] {-1, 12, 40, TOP, BOTTOM}) {
            NO.refused("item " + i, MIXED, x -> x.put(0, 0, i, 5), Due.INDEX);
            NO.refused("BAD ahead of INDEX, item " + i, MIXED, x -> x.put(0, -1, i, 5), BAD);
            NO.refused("NULL ahead of INDEX, item " + i, MIXED, x -> x.put(3, 0, i, 5), Due.NULL);
            NO.refused("CAST ahead of INDEX, item " + i, MIXED, x -> x.put(0, 2, i, 5), Due.CAST);
        }
        NO.refused("BAD ahead of NULL", MIXED, x -> x.put(3, 3, 0, 5), BAD);
        NO.refused("NULL ahead of CAST", SheetEdgesTest::lostZero, x -> x.put(0, 1, 0, 5), Due.NULL);
    }

    private static void getItem() {
        DUE.sentence("Promise 20: get", "Item i of it.");
        SpanStore x = Stores.mixed();
        DUE.is("the first", x.get(2, 2, 0), -400);
        DUE.is("the last", x.get(2, 2, 12), 0);
        x.put(2, 2, 12, BOTTOM);
        DUE.is("the least int as an item", x.get(2, 2, 12), BOTTOM);
        DUE.is("is no finding", x.told(3), 0);
    }

    private static void getRefusals() {
        DUE.sentence("Promise 20: get", "BAD: the least int; so are NULL, CAST, INDEX (told() 3 tells).");
        NO.refused("form 3", MIXED, x -> x.get(0, 3, 0), Due.LEAST_INT, 0);
        NO.refused("sheet 4", MIXED, x -> x.get(4, 0, 0), Due.LEAST_INT, 0);
        NO.refused("lost", MIXED, x -> x.get(3, 0, 0), Due.LEAST_INT, 1);
        NO.refused("another form", MIXED, x -> x.get(0, 1, 0), Due.LEAST_INT, 3);
        NO.refused("another form", MIXED, x -> x.get(2, 1, 0), Due.LEAST_INT, 3);
        for (int i : new int[] {-1, 12, 40, TOP, BOTTOM}) {
            NO.refused("item " + i, MIXED, x -> x.get(0, 0, i), Due.LEAST_INT, 2);
            NO.refused("BAD ahead of INDEX, item " + i, MIXED, x -> x.get(0, -1, i), Due.LEAST_INT, 0);
            NO.refused("NULL ahead of INDEX, item " + i, MIXED, x -> x.get(3, 0, i), Due.LEAST_INT, 1);
            NO.refused("CAST ahead of INDEX, item " + i, MIXED, x -> x.get(0, 2, i), Due.LEAST_INT, 3);
        }
        NO.refused("BAD ahead of NULL", MIXED, x -> x.get(3, 3, 0), Due.LEAST_INT, 0);
        NO.refused("NULL ahead of CAST", SheetEdgesTest::lostZero, x -> x.get(0, 1, 0), Due.LEAST_INT, 1);
    }

    /** Sheet 0 has shorts 10 to 15, sheet 1 four shorts, sheet 2 six ints, sheet 3 is lost. */
    private static SpanStore shorts() {
        SpanStore x = new SpanStore();
        x.sheet(0, 1, 6);
        x.sheet(1, 1, 4);
        x.sheet(2, 2, 6);
        for (int i = 0; i < 6; i++) {
            x.put(0, 1, i, 10 + i);
        }
        return x;
    }

    private static void itemsAre(String when, SpanStore x, int s, int... due) {
        for (int i = 0; i < due.length; i++) {
            DUE.is(when + ": item " + i, x.get(s, 1, i), due[i]);
        }
    }

    private static void copyItems() {
        DUE.sentence("Promise 21: copy", "n items of SHEET s, from i on, come to SHEET t");
        SpanStore x = shorts();
        DUE.is("three", x.copy(0, 1, 1, 1, 3), 1);
        itemsAre("three", x, 1, 0, 11, 12, 13);
        itemsAre("where they came from", x, 0, 10, 11, 12, 13, 14, 15);
        DUE.is("to the last of both", x.copy(0, 5, 1, 3, 1), 1);
        itemsAre("one", x, 1, 0, 11, 12, 15);
        DUE.is("all of one", x.copy(1, 0, 0, 2, 4), 1);
        itemsAre("four", x, 0, 10, 11, 0, 11, 12, 15);
        DUE.is("none", x.copy(0, 0, 1, 0, 0), 1);
        itemsAre("none", x, 1, 0, 11, 12, 15);
        SpanStore y = new SpanStore();
        y.sheet(0, 0, 40);
        y.sheet(1, 0, 40);
        y.put(0, 0, 39, -1);
        DUE.is("all of 40", y.copy(0, 0, 1, 0, 40), 1);
        DUE.is("the last of 40", y.get(1, 0, 39), -1);
    }

    private static void copyInItself() {
        DUE.sentence("Promise 21: copy", "(perhaps s, as they were)");
        SpanStore up = shorts();
        DUE.is("up by one", up.copy(0, 0, 0, 1, 5), 1);
        itemsAre("up by one", up, 0, 10, 10, 11, 12, 13, 14);
        SpanStore upTwo = shorts();
        DUE.is("up by two", upTwo.copy(0, 1, 0, 3, 3), 1);
        itemsAre("up by two", upTwo, 0, 10, 11, 12, 11, 12, 13);
        SpanStore down = shorts();
        DUE.is("down by one", down.copy(0, 1, 0, 0, 5), 1);
        itemsAre("down by one", down, 0, 11, 12, 13, 14, 15, 15);
        SpanStore stay = shorts();
        DUE.is("to where they are", stay.copy(0, 0, 0, 0, 6), 1);
        itemsAre("to where they are", stay, 0, 10, 11, 12, 13, 14, 15);
    }

    private static void copyBad() {
        DUE.sentence("Promise 21: copy", "BAD: the SHEETS");
        for (int s : new int[] {-1, 4}) {
            NO.refused("from " + s, MIXED, x -> x.copy(s, 0, 0, 0, 1), BAD);
            NO.refused("to " + s, MIXED, x -> x.copy(0, 0, s, 0, 1), BAD);
            NO.refused("from and to " + s, MIXED, x -> x.copy(s, 0, s, 0, 1), BAD);
            NO.refused("from " + s + " ahead of NULL", MIXED, x -> x.copy(s, 0, 3, 0, 1), BAD);
            NO.refused("to " + s + " ahead of NULL", MIXED, x -> x.copy(3, 0, s, 0, 1), BAD);
            NO.refused("to " + s + " ahead of INDEX", MIXED, x -> x.copy(0, -1, s, -1, -1), BAD);
        }
    }

    private static void copyNull() {
        DUE.sentence("Promise 21: copy", "NULL: s, t");
        NO.refused("s", MIXED, x -> x.copy(3, 0, 0, 0, 1), Due.NULL);
        NO.refused("t", MIXED, x -> x.copy(0, 0, 3, 0, 1), Due.NULL);
        NO.refused("both", MIXED, x -> x.copy(3, 0, 3, 0, 1), Due.NULL);
        NO.refused("no items", MIXED, x -> x.copy(0, 0, 3, 0, 0), Due.NULL);
        NO.refused("s ahead of INDEX", MIXED, x -> x.copy(3, -1, 0, 0, 1), Due.NULL);
        NO.refused("t ahead of INDEX", MIXED, x -> x.copy(0, 0, 3, 0, -1), Due.NULL);
        NO.refused("s ahead of STORE", SheetEdgesTest::lostZero, x -> x.copy(0, 0, 1, 0, 1), Due.NULL);
        NO.refused("t ahead of STORE", SheetEdgesTest::lostZero, x -> x.copy(2, 0, 0, 0, 1), Due.NULL);
    }

    private static void copyStore() {
        DUE.sentence("Terms", "4 STORE: unlike FORMS");
        for (int s = 0; s < 3; s++) {
            for (int t = 0; t < 3; t++) {
                if (s != t) {
                    int from = s, to = t;
                    NO.refused(s + " to " + t, MIXED, x -> x.copy(from, 0, to, 0, 1), Due.STORE);
                    NO.refused(s + " to " + t + ", no items", MIXED, x -> x.copy(from, 0, to, 0, 0), Due.STORE);
                    NO.refused("ahead of INDEX of s", MIXED, x -> x.copy(from, -1, to, 0, 1), Due.STORE);
                    NO.refused("ahead of INDEX of t", MIXED, x -> x.copy(from, 0, to, 13, 1), Due.STORE);
                    NO.refused("ahead of INDEX of n", MIXED, x -> x.copy(from, 0, to, 0, -1), Due.STORE);
                }
            }
        }
        DUE.is("like ones", shorts().copy(0, 0, 1, 0, 1), 1);
    }

    private static void copyBelowZero() {
        DUE.sentence("Promise 21: copy", "INDEX: below 0");
        for (int less : new int[] {-1, -2, BOTTOM}) {
            NO.refused("i " + less, SheetEdgesTest::shorts, x -> x.copy(0, less, 1, 0, 1), Due.INDEX);
            NO.refused("j " + less, SheetEdgesTest::shorts, x -> x.copy(0, 0, 1, less, 1), Due.INDEX);
            NO.refused("n " + less, SheetEdgesTest::shorts, x -> x.copy(0, 0, 1, 0, less), Due.INDEX);
            NO.refused("n " + less + " behind", SheetEdgesTest::shorts, x -> x.copy(0, 3, 1, 3, less), Due.INDEX);
            NO.refused("i " + less + ", no items", SheetEdgesTest::shorts, x -> x.copy(0, less, 1, 0, 0), Due.INDEX);
            NO.refused("j " + less + ", no items", SheetEdgesTest::shorts, x -> x.copy(0, 0, 1, less, 0), Due.INDEX);
            NO.refused("in itself", SheetEdgesTest::shorts, x -> x.copy(0, less, 0, less, 1), Due.INDEX);
        }
    }

    private static void copyNotSoMany() {
        DUE.sentence("Promise 21: copy", "INDEX: below 0, not so many.");
        int[][] beyond = {
            {0, 0, 5}, {2, 0, 5}, {3, 0, 4}, {5, 0, 2}, {6, 0, 1}, {0, 1, 4}, {0, 3, 2}, {0, 4, 1}, {0, 0, 41},
            {7, 0, 0}, {0, 5, 0}, {40, 0, 1}, {0, 40, 1},
            {1, 1, TOP}, {TOP, 0, 1}, {0, TOP, 1}, {TOP, TOP, TOP}, {TOP, 0, TOP}, {0, TOP, TOP}, {TOP, TOP, 2},
        };
        for (int[] b : beyond) {
            String call = "copy(0, " + b[0] + ", 1, " + b[1] + ", " + b[2] + ")";
            NO.refused(call, SheetEdgesTest::shorts, x -> x.copy(0, b[0], 1, b[1], b[2]), Due.INDEX);
        }
        NO.refused("of s alone", SheetEdgesTest::shorts, x -> x.copy(1, 0, 0, 0, 5), Due.INDEX);
        NO.refused("in itself", SheetEdgesTest::shorts, x -> x.copy(0, 0, 0, 1, 6), Due.INDEX);
        DUE.is("just so many", shorts().copy(0, 2, 1, 0, 4), 1);
        DUE.is("none, just behind the last of both", shorts().copy(0, 6, 1, 4, 0), 1);
        SpanStore none = new SpanStore();
        none.sheet(0, 0, 0);
        DUE.is("none of none", none.copy(0, 0, 0, 0, 0), 1);
        DUE.is("one of none", none.copy(0, 0, 0, 0, 1), Due.INDEX);
    }

    /** Table 0 is sealed: known are rows 0 and 2 of blocks 1 and 5, block 5 being told first. */
    private static SpanStore written() {
        SpanStore x = new SpanStore();
        Due.rows(x, 0, 5, new int[][] {{50, 1, -500}, {51, 2, 600}, {52, 3, 700}});
        Due.rows(x, 0, 1, new int[][] {{99, 3, 1000}, {11, 2, -2}, {12, 1, -129}});
        x.keeper(0, 0, 2, 0);
        for (int s = 0; s < 4; s++) {
            x.sheet(s, 2, 10);
            for (int i = 0; i < 10; i++) {
                x.put(s, 2, i, 77);
            }
        }
        x.seal(0);
        return x;
    }

    private static void triples(String when, SpanStore x, int[][] due) {
        for (int i = 0; i < due.length; i++) {
            for (int s = 0; s < 3; s++) {
                DUE.is(when + ": item " + i + " of sheet " + s, x.get(s, 2, i), due[i][s]);
            }
        }
    }

    private static void writeOrder() {
        DUE.sentence("Promise 22: write", "KNOWN ROWS of a TABLE by BLOCKS, then ROWS, come to SHEETS k, g, v");
        SpanStore x = written();
        DUE.is("known ones", x.write(0, 0, 1, 2), 4);
        triples("known ones", x, new int[][] {{99, 3, 1000}, {12, 1, -129}, {50, 1, -500}, {52, 3, 700}, {77, 77, 77}});
        x.change(0, 1, 1, 8);
        DUE.is("one more", x.write(0, 0, 1, 2), 5);
        triples("one more", x, new int[][] {{99, 3, 1000}, {11, 2, 8}, {12, 1, -129}, {50, 1, -500}, {52, 3, 700}});
        DUE.is("sheets in another order", x.write(0, 2, 0, 1), 5);
        triples("in another order", x, new int[][] {{3, 1000, 99}, {2, 8, 11}});
        DUE.is("sheet 3 is not told", x.get(3, 2, 0), 77);
        SpanStore none = Stores.block(new int[0][], 1, 2);
        none.sheet(0, 2, 5);
        DUE.is("none known", none.write(0, 0, 0, 0), 0);
        SpanStore empty = new SpanStore();
        empty.sheet(0, 2, 5);
        empty.seal(1);
        DUE.is("no rows", empty.write(1, 0, 0, 0), 0);
        DUE.is("nothing came", empty.get(0, 2, 0), 0);
    }

    private static void writeLowestBits() {
        DUE.sentence("Promise 22: write", "the lowest bits that an item has");
        SpanStore x = written();
        x.sheet(0, 0, 4);
        x.sheet(1, 1, 4);
        DUE.is("values to bytes", x.write(0, 1, 2, 0), 4);
        int[] bytes = {-24, 127, 12, -68};
        int[] keys = {99, 12, 50, 52};
        for (int i = 0; i < 4; i++) {
            DUE.is("byte " + i, x.get(0, 0, i), bytes[i]);
            DUE.is("key " + i, x.get(1, 1, i), keys[i]);
        }
        DUE.is("values to shorts", x.write(0, 0, 2, 1), 4);
        int[] shorts = {1000, -129, -500, 700};
        for (int i = 0; i < 4; i++) {
            DUE.is("short " + i, x.get(1, 1, i), shorts[i]);
        }
    }

    private static void writeFromItemZero() {
        DUE.sentence("Promise 22: write", "from item 0 on");
        SpanStore x = written();
        x.write(0, 0, 1, 2);
        DUE.is("the first", x.get(0, 2, 0), 99);
        DUE.is("the last", x.get(0, 2, 3), 52);
        for (int s = 0; s < 3; s++) {
            for (int i = 4; i < 10; i++) {
                DUE.is("behind the last, sheet " + s, x.get(s, 2, i), 77);
            }
        }
        x.clear(0);
        x.keeper(0, 0, 1, 0);
        x.row(0, 7, 1, 1, 1);
        x.seal(0);
        DUE.is("again", x.write(0, 0, 1, 2), 1);
        triples("again", x, new int[][] {{1, 1, 1}, {12, 1, -129}});
    }

    private static void writeTwice() {
        DUE.sentence("Promise 22: write", "ROW by ROW (KEY, GROUP, VALUE: of a SHEET told twice the later stays)");
        SpanStore x = written();
        DUE.is("k and g", x.write(0, 0, 0, 2), 4);
        DUE.is("the GROUP stays", x.get(0, 2, 2), 1);
        DUE.is("the VALUE too", x.get(2, 2, 2), -500);
        DUE.is("g and v", x.write(0, 0, 1, 1), 4);
        DUE.is("the KEY", x.get(0, 2, 2), 50);
        DUE.is("the VALUE stays", x.get(1, 2, 2), -500);
        DUE.is("k and v", x.write(0, 3, 1, 3), 4);
        DUE.is("the GROUP", x.get(1, 2, 2), 1);
        DUE.is("the VALUE stays", x.get(3, 2, 2), -500);
        DUE.is("all three", x.write(0, 1, 1, 1), 4);
        DUE.is("the VALUE stays", x.get(1, 2, 0), 1000);
        DUE.is("of each ROW", x.get(1, 2, 3), 700);
    }

    private static void writeShortest() {
        DUE.sentence("Promise 22: write", "as many as the shortest of them has items: how many");
        for (int n : new int[] {0, 1, 3, 4, 5}) {
            for (int shortest = 0; shortest < 3; shortest++) {
                SpanStore x = written();
                x.sheet(shortest, 2, n);
                DUE.is("sheet " + shortest + " of " + n, x.write(0, 0, 1, 2), Math.min(n, 4));
                int other = (shortest + 1) % 3;
                int[][] due = {{99, 3, 1000}, {12, 1, -129}, {50, 1, -500}, {52, 3, 700}};
                for (int i = 0; i < 4; i++) {
                    DUE.is("item " + i + " of sheet " + other, x.get(other, 2, i), i < n ? due[i][other] : 77);
                }
            }
        }
        SpanStore most = new SpanStore();
        for (int i = 0; i < 48; i++) {
            most.row(1, i / 12, i, 0, i);
        }
        most.keeper(1, 0, 1, 0);
        most.sheet(0, 0, 40);
        most.seal(1);
        DUE.is("40 of 48", most.write(1, 0, 0, 0), 40);
        DUE.is("the last of them", most.get(0, 0, 39), 39);
    }

    private static void writeRefusals() {
        DUE.sentence("Promise 22: write", "BAD: TABLE, SHEETS; STATE: OPEN; NULL.");
        NO.refused("table 2", MIXED, x -> x.write(2, 0, 1, 2), BAD);
        NO.refused("k -1", MIXED, x -> x.write(0, -1, 1, 2), BAD);
        NO.refused("g 4", MIXED, x -> x.write(0, 0, 4, 2), BAD);
        NO.refused("v 4", MIXED, x -> x.write(0, 0, 1, 4), BAD);
        NO.refused("open", MIXED, x -> x.write(1, 0, 1, 2), STATE);
        NO.refused("both open", OPEN, x -> x.write(0, 0, 0, 0), STATE);
        NO.refused("k is lost", MIXED, x -> x.write(0, 3, 1, 2), Due.NULL);
        NO.refused("g is lost", MIXED, x -> x.write(0, 0, 3, 2), Due.NULL);
        NO.refused("v is lost", MIXED, x -> x.write(0, 0, 1, 3), Due.NULL);
        NO.refused("BAD ahead of STATE", MIXED, x -> x.write(1, 0, 4, 2), BAD);
        NO.refused("BAD ahead of NULL", MIXED, x -> x.write(0, 3, 1, 4), BAD);
        NO.refused("STATE ahead of NULL", MIXED, x -> x.write(1, 3, 3, 3), STATE);
    }
}
