/** Promises 17 to 22: sheet, lose, put, get, copy, write. */
public final class SheetsTest {
    private static final Due DUE = new Due();
    private static final int TOP = Integer.MAX_VALUE, BOTTOM = Integer.MIN_VALUE;

    public static void main(String[] args) {
        sheet();
        lose();
        put();
        putAndGetRefusals();
        copy();
        copyRefusals();
        write();
        writeRefusals();
        DUE.end();
    }

    private static void refusedBad(SpanStore x, String call, long got) {
        DUE.is(call, got, SpanStore.BAD);
        DUE.is(call + ": finding", x.told(3), 0);
    }

    private static void sheet() {
        SpanStore x = new SpanStore();
        refusedBad(x, "17 sheet -1", x.sheet(-1, 0, 1));
        refusedBad(x, "17 sheet 4", x.sheet(4, 0, 1));
        refusedBad(x, "17 form -1", x.sheet(0, -1, 1));
        refusedBad(x, "17 form 3", x.sheet(0, 3, -1));
        refusedBad(x, "17 above 40", x.sheet(0, 0, 41));
        DUE.is("17 below 0", x.sheet(0, 0, -1), Due.SIZE);
        DUE.is("17 far below 0", x.sheet(0, 0, BOTTOM), Due.SIZE);
        DUE.is("17 told", x.told(3), 5);
        DUE.is("17 still lost", x.lose(0), Due.NULL);
        for (int form = 0; form < 3; form++) {
            DUE.is("17 of 40", x.sheet(form, form, 40), 40);
            DUE.is("17 0 at first", x.get(form, form, 0), 0);
            DUE.is("17 0 at first", x.get(form, form, 39), 0);
            DUE.is("17 no more", x.get(form, form, 40), Due.LEAST_INT);
        }
        x.put(2, 2, 5, 9);
        DUE.is("17 a finding leaves it", x.sheet(2, 0, -2), Due.SIZE);
        DUE.is("17 as it was", x.get(2, 2, 5), 9);
        DUE.is("17 anew", x.sheet(2, 1, 6), 6);
        DUE.is("17 0 anew", x.get(2, 1, 5), 0);
        DUE.is("17 shorter", x.put(2, 1, 6, 0), Due.INDEX);
        DUE.is("17 of none", x.sheet(3, 0, 0), 0);
        DUE.is("17 no item", x.put(3, 0, 0, 0), Due.INDEX);
    }

    private static void lose() {
        SpanStore x = new SpanStore();
        refusedBad(x, "18 sheet -1", x.lose(-1));
        refusedBad(x, "18 sheet 4", x.lose(4));
        DUE.is("18 lost", x.lose(3), Due.NULL);
        DUE.is("18 told", x.told(3), 1);
        x.sheet(3, 2, 17);
        x.sheet(2, 2, 0);
        DUE.is("18 lose", x.lose(3), 17);
        DUE.is("18 again", x.lose(3), Due.NULL);
        DUE.is("18 of none", x.lose(2), 0);
        DUE.is("18 an item of it", x.put(3, 2, 0, 0), Due.NULL);
    }

    private static void put() {
        SpanStore x = new SpanStore();
        x.sheet(0, 0, 3);
        x.sheet(1, 1, 3);
        x.sheet(2, 2, 3);
        int[] given = {0, 1, -1, 127, 128, -128, -129, 255, 256, 32767, 32768, -32768, -32769, 65535, 65536, TOP, BOTTOM};
        for (int v : given) {
            DUE.is("19 byte", x.put(0, 0, 1, v), 1);
            DUE.is("20 byte of " + v, x.get(0, 0, 1), (byte) v);
            DUE.is("19 short", x.put(1, 1, 1, v), 1);
            DUE.is("20 short of " + v, x.get(1, 1, 1), (short) v);
            DUE.is("19 int", x.put(2, 2, 1, v), 1);
            DUE.is("20 int of " + v, x.get(2, 2, 1), v);
        }
        x.put(0, 0, 0, 7);
        x.put(0, 0, 2, 8);
        DUE.is("19 other items stay", x.get(0, 0, 1), (byte) BOTTOM);
        DUE.is("20 first", x.get(0, 0, 0), 7);
        DUE.is("20 last", x.get(0, 0, 2), 8);
        DUE.is("19 no finding", x.told(3), 0);
    }

    private static void putAndGetRefusals() {
        SpanStore x = new SpanStore();
        int[][] bad = {{-1, 0}, {4, 0}, {0, -1}, {0, 3}, {TOP, 0}, {0, BOTTOM}};
        for (int[] b : bad) {
            refusedBad(x, "19 bad", x.put(b[0], b[1], 0, 0));
            DUE.is("20 bad", x.get(b[0], b[1], 0), Due.LEAST_INT);
            DUE.is("20 bad: finding", x.told(3), 0);
        }
        x.sheet(1, 1, 2);
        int[][] findings = {{0, 1, 5, 1}, {1, 0, 5, 3}, {1, 2, 0, 3}, {1, 1, 2, 2}, {1, 1, -1, 2}, {1, 1, TOP, 2}};
        for (int[] f : findings) {
            x.lose(3);
            DUE.is("19 finding", x.put(f[0], f[1], f[2], 1), -10 - f[3]);
            DUE.is("19 told", x.told(3), f[3]);
            x.lose(3);
            DUE.is("20 finding", x.get(f[0], f[1], f[2]), Due.LEAST_INT);
            DUE.is("20 told", x.told(3), f[3]);
        }
        DUE.is("19 nothing became", x.get(1, 1, 0), 0);
        DUE.is("19 a good call leaves the finding", x.told(3), 2);
    }

    private static SpanStore counted() {
        SpanStore x = new SpanStore();
        x.sheet(0, 1, 6);
        x.sheet(1, 1, 4);
        x.sheet(2, 2, 6);
        for (int i = 0; i < 6; i++) {
            x.put(0, 1, i, 10 + i);
        }
        return x;
    }

    private static void items(String what, SpanStore x, int s, int... due) {
        for (int i = 0; i < due.length; i++) {
            DUE.is(what + " item " + i, x.get(s, 1, i), due[i]);
        }
    }

    private static void copy() {
        SpanStore x = counted();
        DUE.is("21 copy", x.copy(0, 2, 1, 1, 3), 1);
        items("21 came", x, 1, 0, 12, 13, 14);
        items("21 stays", x, 0, 10, 11, 12, 13, 14, 15);
        DUE.is("21 up in itself", x.copy(0, 0, 0, 1, 5), 1);
        items("21 as they were", x, 0, 10, 10, 11, 12, 13, 14);
        DUE.is("21 down in itself", x.copy(0, 2, 0, 0, 4), 1);
        items("21 as they were", x, 0, 11, 12, 13, 14, 13, 14);
        DUE.is("21 none", x.copy(0, 6, 1, 4, 0), 1);
        DUE.is("21 all", x.copy(1, 0, 0, 2, 4), 1);
        items("21 all", x, 0, 11, 12, 0, 12, 13, 14);
    }

    private static void copyRefusals() {
        SpanStore x = counted();
        refusedBad(x, "21 bad", x.copy(-1, 0, 0, 0, 1));
        refusedBad(x, "21 bad", x.copy(4, 0, 0, 0, 1));
        refusedBad(x, "21 bad", x.copy(0, 0, -1, 0, 1));
        refusedBad(x, "21 bad ahead of null", x.copy(3, 0, 4, 0, 1));
        DUE.is("21 null s", x.copy(3, 0, 0, 0, 1), Due.NULL);
        DUE.is("21 null t", x.copy(0, 0, 3, 0, 1), Due.NULL);
        DUE.is("21 told", x.told(3), 1);
        DUE.is("21 store ahead of index", x.copy(0, -1, 2, 0, 1), Due.STORE);
        DUE.is("21 store of none", x.copy(2, 0, 0, 0, 0), Due.STORE);
        DUE.is("21 told", x.told(3), 4);
        int[][] index = {
            {-1, 0, 1}, {0, -1, 1}, {0, 0, -1}, {0, 0, 5}, {0, 1, 4}, {3, 0, 4}, {7, 0, 0}, {0, 5, 0},
            {1, 1, TOP}, {TOP, 0, 1}, {0, TOP, 1}, {TOP, TOP, TOP}, {BOTTOM, 0, 1}, {0, 0, BOTTOM}, {6, 0, 1},
        };
        for (int[] i : index) {
            DUE.is("21 index", x.copy(0, i[0], 1, i[1], i[2]), Due.INDEX);
            DUE.is("21 told", x.told(3), 2);
        }
        items("21 nothing came", x, 1, 0, 0, 0, 0);
    }

    private static SpanStore sealed() {
        SpanStore x = new SpanStore();
        Due.rows(x, 0, 5, new int[][] {{50, 1, -500}, {51, 2, 600}, {52, 3, 700}});
        Due.rows(x, 0, 1, new int[][] {{99, 3, 1000}, {11, 2, -2}, {12, 1, 3}});
        x.keeper(0, 0, 2, 0);
        x.sheet(0, 0, 5);
        x.sheet(1, 1, 6);
        x.sheet(2, 2, 40);
        return x;
    }

    private static void write() {
        SpanStore x = sealed();
        x.seal(0);
        x.put(0, 0, 4, 77);
        DUE.is("22 write", x.write(0, 0, 1, 2), 4);
        int[][] due = {{99, 3, 1000}, {12, 1, 3}, {50, 1, -500}, {52, 3, 700}};
        for (int i = 0; i < 4; i++) {
            for (int s = 0; s < 3; s++) {
                DUE.is("22 row " + i + " sheet " + s, x.get(s, s, i), due[i][s]);
            }
        }
        DUE.is("22 behind the last", x.get(0, 0, 4), 77);
        x.read(0, 1);
        x.read(0, 5);
        DUE.is("22 as many as the shortest has: k", x.write(0, 0, 1, 2), 5);
        DUE.is("22 g", x.write(0, 2, 0, 1), 5);
        DUE.is("22 v", x.write(0, 1, 2, 0), 5);
        DUE.is("22 lowest bits", x.get(0, 0, 0), (byte) 1000);
        DUE.is("22 all", x.write(0, 1, 2, 2), 6);
        DUE.is("22 the value stays", x.get(2, 2, 5), 700);
        DUE.is("22 group and key in one", x.write(0, 2, 2, 1), 6);
        DUE.is("22 the group stays", x.get(2, 2, 5), 3);
        DUE.is("22 value and key in one", x.write(0, 2, 1, 2), 6);
        DUE.is("22 the value stays", x.get(2, 2, 0), 1000);
        x.change(0, 1, 1, -9);
        x.write(0, 1, 1, 2);
        DUE.is("22 a changed value", x.get(2, 2, 1), -9);
        x.sheet(3, 0, 0);
        DUE.is("22 no items", x.write(0, 0, 3, 2), 0);
    }

    private static void writeRefusals() {
        SpanStore x = sealed();
        DUE.is("22 open ahead of null", x.write(0, 3, 1, 2), SpanStore.STATE);
        x.seal(0);
        int[][] bad = {
            {-1, 0, 1, 2}, {2, 0, 1, 2}, {0, -1, 1, 2}, {0, 4, 1, 2}, {0, 0, -1, 2}, {0, 0, 4, 2}, {0, 0, 1, -1},
            {0, 3, 1, 4}, {1, 4, 1, 2},
        };
        for (int[] b : bad) {
            refusedBad(x, "22 bad", x.write(b[0], b[1], b[2], b[3]));
        }
        DUE.is("22 null k", x.write(0, 3, 1, 2), Due.NULL);
        DUE.is("22 null g", x.write(0, 0, 3, 2), Due.NULL);
        DUE.is("22 null v", x.write(0, 0, 1, 3), Due.NULL);
        DUE.is("22 told", x.told(3), 1);
        DUE.is("22 nothing came", x.get(2, 2, 0), 0);
    }
}
