/** Promises 23 and 24: told, digest. */
public final class ToldTest {
    private static final Due DUE = new Due();

    public static void main(String[] args) {
        told();
        findings();
        newDigest();
        sealedDigest();
        digestOfBoth();
        refusalsChangeNothing();
        DUE.end();
    }

    private static void allTold(String when, SpanStore x, int... due) {
        for (int what = 0; what < due.length; what++) {
            DUE.is("23 " + when + ": told(" + what + ")", x.told(what), due[what]);
        }
    }

    private static void told() {
        SpanStore x = new SpanStore();
        int[] bad = {-1, 10, 11, Integer.MIN_VALUE, Integer.MAX_VALUE};
        for (int what : bad) {
            DUE.is("23 told(" + what + ")", x.told(what), SpanStore.BAD);
        }
        Due.values(x, 0, 0, 1, 2, 3);
        Due.values(x, 1, 7, 1, 2);
        Due.values(x, 1, 1, 1, 2);
        x.keeper(1, 0, 2, 0);
        allTold("open", x, 3, 4, 0, 0, 0, 0, 0, 1, 0, 0);
        x.seal(1);
        allTold("one sealed", x, 3, 4, 0, 0, 0, 1, 0, 1, 0, 2);
        x.seal(0);
        x.read(1, 7);
        x.read(1, 7);
        x.refine(0, -1, 0);
        x.change(1, 1, 1, 9);
        allTold("read", x, 3, 4, 2, 0, 1, 1, 0, 1, 3, 4);
        x.clear(1);
        allTold("one cleared", x, 3, 0, 2, 0, 1, 0, 0, 0, 3, 0);
    }

    private static void findings() {
        SpanStore x = new SpanStore();
        x.sheet(0, 0, 2);
        x.sheet(1, 1, 2);
        x.lose(3);
        DUE.is("23 NULL", x.told(3), 1);
        x.get(0, 0, 2);
        DUE.is("23 INDEX", x.told(3), 2);
        x.get(0, 1, 2);
        DUE.is("23 CAST", x.told(3), 3);
        x.copy(0, 0, 1, 0, 1);
        DUE.is("23 STORE", x.told(3), 4);
        x.sheet(0, 0, -1);
        DUE.is("23 SIZE", x.told(3), 5);
        x.sheet(4, 0, 1);
        x.seal(0);
        x.seal(0);
        x.get(0, 0, 0);
        x.clear(0);
        DUE.is("23 the latest", x.told(3), 5);
    }

    private static long mixed(long h, long... items) {
        for (long item : items) {
            h = 31 * h + item;
        }
        return h;
    }

    private static void newDigest() {
        SpanStore x = new SpanStore();
        DUE.is("24 new", x.digest(), mixed(17, 0, 0, 0, 0, 0, 0, 0, 0, 0));
        DUE.is("24 asking changes nothing", x.digest(), mixed(17, 0, 0, 0, 0, 0, 0, 0, 0, 0));
        x.lose(0);
        DUE.is("24 findings are not in it", x.digest(), mixed(17, 0, 0, 0, 0, 0, 0, 0, 0, 0));
        Due.values(x, 1, 3, 4, 5);
        x.keeper(1, 0, 2, 0);
        DUE.is("24 open", x.digest(), mixed(17, 0, 2, 0, 0, 0, 0, 1, 0, 0));
        x.sheet(0, 0, 9);
        DUE.is("24 sheets are not in it", x.digest(), mixed(17, 0, 2, 0, 0, 0, 0, 1, 0, 0));
    }

    private static long emptyBlocks(long h, int blocks) {
        for (int i = 0; i < blocks; i++) {
            h = mixed(h, 0, 0, 0, 0, 0, 0, 0, 0, 0, 0, 0, 0);
        }
        return h;
    }

    private static void sealedDigest() {
        SpanStore x = new SpanStore();
        Due.rows(x, 1, 3, new int[][] {{1, 0, -4}, {2, 1, 5}, {3, 3, 7}, {4, 3, 6}});
        Due.rows(x, 1, 4, new int[][] {{1, 2, 8}});
        x.keeper(1, 0, 2, 0);
        x.seal(1);
        long h = emptyBlocks(mixed(17, 0, 5, 0, 0, 1, 0, 1, 0, 3), 3);
        h = mixed(h, 4, -4, 7, 2, -4, 7, 0, 0, 1, 1, 0, 2, 0, -4, 2, 7);
        h = mixed(h, 1, 8, 8, 0, 0, 0, 0, 0, 0, 0, 1, 0, 0, 8);
        h = emptyBlocks(h, 3);
        DUE.is("24 sealed", x.digest(), mixed(h, 11 - 8, 11 + 14));
    }

    private static void digestOfBoth() {
        SpanStore x = new SpanStore();
        Due.values(x, 0, 0, -1, 2, 3);
        Due.values(x, 1, 7, 9);
        x.seal(0);
        x.seal(1);
        x.read(1, 7);
        x.change(1, 7, 0, 10);
        long h = mixed(17, 3, 1, 1, 1, 1, 0, 0, 0, 1);
        h = mixed(h, 3, -1, 3, 3, -1, 3, 1, 1, 3, 0, 0, 0);
        h = mixed(emptyBlocks(h, 7), 1, 5);
        h = mixed(emptyBlocks(h, 7), 1, 9, 9, 0, 0, 0, 0, 0, 1, 0, 0, 0, 0, 10);
        DUE.is("24 both", x.digest(), mixed(h, 10, 10));
    }

    private static void refusalsChangeNothing() {
        SpanStore x = new SpanStore();
        Due.values(x, 0, 0, -1, 2, 3);
        Due.values(x, 1, 0, 5, 6);
        x.keeper(0, 0, 2, 0);
        x.seal(0);
        long before = x.digest();
        x.row(0, 0, 1, 1, 1);
        x.row(1, 0, 1, 1, 1001);
        x.load(0, 0, 0, 1, 2, 1);
        x.load(1, 0, 0, 1, 2, 1);
        x.keeper(0, 0, 1, 0);
        x.keeper(1, 0, 1, 1);
        x.seal(0);
        x.clear(2);
        x.read(1, 0);
        x.read(0, 8);
        x.change(1, 0, 0, 7);
        x.change(0, 0, 1, 1001);
        x.refine(1, -1, 0);
        x.refine(0, -1, -1);
        x.write(0, 0, 0, 0);
        DUE.is("24 refusals change nothing", x.digest(), before);
    }
}
