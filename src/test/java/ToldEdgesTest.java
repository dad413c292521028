import java.math.BigInteger;
import java.util.function.Supplier;

/** Findings and refusals of the document's Terms, and promises 23 and 24: a test for each sentence. */
public final class ToldEdgesTest {
    private static final Due DUE = new Due();
    private static final Refusals NO = new Refusals(DUE);
    private static final int TOP = Stores.TOP, BOTTOM = Stores.BOTTOM;
    private static final int BAD = SpanStore.BAD, STATE = SpanStore.STATE, FULL = SpanStore.FULL, NOT = SpanStore.NOT;
    private static final Supplier<SpanStore> MIXED = Stores::mixed;

    public static void main(String[] args) {
        findings();
        nullFinding();
        indexFinding();
        castFinding();
        firstThatFits();
        refusalNumbers();
        refusalsChangeNothing();
        findingsChangeTold();
        toldRows();
        toldReads();
        toldFinding();
        toldSealed();
        toldKeepers();
        toldKnown();
        toldBad();
        digestStart();
        digestTold();
        digestOfSealed();
        digestWraps();
        DUE.end();
    }

    private static void findings() {
        DUE.sentence("Terms", "FINDINGS (answers -10 less the number; they change nothing but told() 3)");
        NO.refused("1 NULL", MIXED, x -> x.lose(3), -11, 1);
        NO.refused("2 INDEX", MIXED, x -> x.put(0, 0, 12, 0), -12, 2);
        NO.refused("3 CAST", MIXED, x -> x.put(0, 1, 0, 0), -13, 3);
        NO.refused("4 STORE", MIXED, x -> x.copy(0, 0, 1, 0, 1), -14, 4);
        NO.refused("5 SIZE", MIXED, x -> x.sheet(0, 0, -1), -15, 5);
    }

    private static void nullFinding() {
        DUE.sentence("Terms", "1 NULL: the SHEET is LOST");
        NO.refused("lose", MIXED, x -> x.lose(3), Due.NULL);
        NO.refused("put", MIXED, x -> x.put(3, 2, 0, 0), Due.NULL);
        NO.refused("get", MIXED, x -> x.get(3, 2, 0), Due.LEAST_INT, 1);
        NO.refused("copy from it", MIXED, x -> x.copy(3, 0, 0, 0, 1), Due.NULL);
        NO.refused("copy to it", MIXED, x -> x.copy(0, 0, 3, 0, 1), Due.NULL);
        NO.refused("load", MIXED, x -> x.load(1, 2, 0, 1, 3, 1), Due.NULL);
        NO.refused("write", MIXED, x -> x.write(0, 0, 1, 3), Due.NULL);
        SpanStore x = new SpanStore();
        x.sheet(0, 0, 0);
        DUE.is("one of no items is not lost", x.lose(0), 0);
    }

    private static void indexFinding() {
        DUE.sentence("Terms", "2 INDEX: there is no such item");
        NO.refused("put behind the last", MIXED, x -> x.put(1, 1, 11, 0), Due.INDEX);
        NO.refused("put ahead of the first", MIXED, x -> x.put(1, 1, -1, 0), Due.INDEX);
        NO.refused("get behind the last", MIXED, x -> x.get(1, 1, 11), Due.LEAST_INT, 2);
        NO.refused("get ahead of the first", MIXED, x -> x.get(1, 1, -1), Due.LEAST_INT, 2);
        NO.refused("copy", MIXED, x -> x.copy(1, 0, 1, 1, 11), Due.INDEX);
        NO.refused("load", MIXED, x -> x.load(1, 2, 0, 1, 2, 12), Due.INDEX);
        DUE.is("the last", Stores.mixed().put(1, 1, 10, 0), 1);
    }

    private static void castFinding() {
        DUE.sentence("Terms", "3 CAST: it has another FORM");
        for (int s = 0; s < 3; s++) {
            for (int form = 0; form < 3; form++) {
                if (form != s) {
                    int it = s, as = form;
                    NO.refused("put", MIXED, x -> x.put(it, as, 0, 0), Due.CAST);
                    NO.refused("get", MIXED, x -> x.get(it, as, 0), Due.LEAST_INT, 3);
                }
            }
        }
    }

    private static void firstThatFits() {
        DUE.sentence("Terms", "Refusals, the first that fits");
        NO.refused("BAD and STATE", MIXED, x -> x.row(0, 1, 100, 0, 0), BAD);
        NO.refused("BAD and FULL", MIXED, x -> x.row(1, 0, 100, 0, 0), BAD);
        NO.refused("BAD and NOT", Stores::sealed, x -> x.part(5, 5), BAD);
        NO.refused("BAD and NULL", MIXED, x -> x.put(3, 3, 0, 0), BAD);
        NO.refused("BAD and SIZE", MIXED, x -> x.sheet(0, 3, -1), BAD);
        NO.refused("STATE and FULL", MIXED, x -> x.row(0, 5, 0, 0, 0), STATE);
        NO.refused("STATE and NOT", MIXED, x -> x.part(5, 3), STATE);
        NO.refused("STATE and NULL", MIXED, x -> x.write(1, 3, 3, 3), STATE);
        NO.refused("FULL and NULL", MIXED, x -> x.load(1, 0, 3, 3, 3, 1), FULL);
        NO.refused("FULL and INDEX", MIXED, x -> x.load(1, 1, 0, 1, 2, 12), FULL);
        NO.refused("NULL and INDEX", MIXED, x -> x.load(1, 2, 3, 1, 2, 12), Due.NULL);
        NO.refused("INDEX and an item that is BAD", MIXED, x -> x.load(1, 2, 2, 1, 2, 12), Due.INDEX);
        NO.refused("CAST and INDEX", MIXED, x -> x.put(0, 1, 12, 0), Due.CAST);
        NO.refused("STORE and INDEX", MIXED, x -> x.copy(0, 12, 1, 12, 1), Due.STORE);
    }

    private static void refusalNumbers() {
        DUE.sentence("Terms", "BAD -2 (a number not as told, no such thing), STATE -3 (the TABLE is OPEN, or SEALED, "
                + "where it may not be), FULL -4, NOT -5 (as told), FINDINGS.");
        NO.refused("a number not as told", MIXED, x -> x.row(1, 1, 100, 0, 0), -2);
        NO.refused("no such thing", MIXED, x -> x.change(0, 2, 5, 0), -2);
        NO.refused("OPEN", MIXED, x -> x.read(1, 0), -3);
        NO.refused("SEALED", MIXED, x -> x.row(0, 1, 0, 0, 0), -3);
        NO.refused("FULL of rows", MIXED, x -> x.row(1, 0, 0, 0, 0), -4);
        NO.refused("FULL of keepers", MIXED, x -> x.keeper(1, 0, 1, 0), -4);
        NO.refused("NOT", Stores::sealed, x -> x.part(5, 3), -5);
        DUE.is("NONE, which is no refusal", SpanStore.NONE, -1);
        DUE.is("NOT", NOT, -5);
    }

    /** A refusal of each kind of each call that can be refused, one behind the other. */
    private static void refuseAll(SpanStore x) {
        x.row(1, 1, 0, 4, 0);
        x.row(0, 1, 0, 0, 0);
        x.row(1, 0, 0, 0, 0);
        x.load(1, 1, 0, 1, 4, 1);
        x.load(0, 1, 0, 1, 2, 1);
        x.load(1, 1, 0, 1, 2, 10);
        x.load(1, 2, 0, 1, 3, 1);
        x.load(1, 2, 0, 1, 2, 12);
        x.load(1, 2, 0, 2, 2, 1);
        x.keeper(1, 0, 13, 0);
        x.keeper(0, 0, 1, 0);
        x.keeper(1, 0, 1, 0);
        x.seal(2);
        x.seal(0);
        x.clear(2);
        x.read(0, 8);
        x.read(1, 0);
        x.change(0, 2, 1, 1001);
        x.change(0, 2, 5, 0);
        x.change(1, 0, 0, 0);
        x.value(0, 2, 1);
        x.value(1, 0, 0);
        x.about(0, 2, 8);
        x.about(1, 0, 0);
        x.sum(0, 4, 0);
        x.sum(1, 0, 0);
        x.count(0, 0, 2);
        x.count(1, 0, 0);
        x.join(2);
        x.join(0);
        x.part(0, 0);
        x.part(5, 2);
        x.next(0, 4);
        x.next(1, 0);
        x.refine(0, -1, -1);
        x.refine(1, -1, 0);
        x.sheet(0, 3, 1);
        x.sheet(0, 0, 41);
        x.lose(4);
        x.put(0, 3, 0, 5);
        x.get(0, 3, 0);
        x.copy(0, 0, 4, 0, 1);
        x.write(0, 0, 1, 4);
        x.write(1, 0, 1, 2);
        x.told(10);
    }

    private static void refusalsChangeNothing() {
        DUE.sentence("Terms", "They change nothing (FINDINGS but told() 3).");
        SpanStore x = Stores.mixed();
        refuseAll(x);
        DUE.same("all of them", Photo.of(x), Photo.of(Stores.mixed()));
        NO.refused("a read that is refused", MIXED, y -> y.read(1, 1), STATE);
        NO.refused("a load of which only the last item is wrong", ToldEdgesTest::lastItemWrong,
                y -> y.load(1, 2, 0, 1, 2, 5), BAD);
        NO.refused("a copy of which only the last item is not there", MIXED, y -> y.copy(0, 0, 0, 1, 12), Due.INDEX);
        NO.refused("a sheet that is too long", MIXED, y -> y.sheet(2, 0, 41), BAD);
    }

    private static SpanStore lastItemWrong() {
        SpanStore x = Stores.mixed();
        x.put(2, 2, 4, 1001);
        return x;
    }

    private static void findingsChangeTold() {
        DUE.sentence("Terms", "(FINDINGS but told() 3)");
        SpanStore x = Stores.mixed();
        x.sheet(0, 0, -1);
        x.row(0, 0, 0, 0, 0);
        x.row(1, 0, 0, 0, 0);
        x.put(0, 3, 0, 0);
        x.get(4, 0, 0);
        x.value(0, 2, 1);
        x.told(10);
        x.load(1, 2, 0, 2, 2, 1);
        DUE.is("no other refusal changes it", x.told(3), 5);
        x.put(0, 0, 0, 0);
        x.sheet(0, 0, 5);
        x.lose(0);
        x.clear(0);
        x.seal(1);
        x.digest();
        DUE.is("no good call changes it", x.told(3), 5);
        x.get(0, 0, 0);
        DUE.is("the next finding does", x.told(3), 1);
    }

    private static void toldRows() {
        DUE.sentence("Promise 23: told", "0 and 1: ROWS of TABLE 0, 1");
        SpanStore x = new SpanStore();
        for (int i = 0; i < 96; i++) {
            x.row(1, i / 12, 0, 0, i);
        }
        x.row(0, 0, 0, 0, 0);
        DUE.is("table 0", x.told(0), 1);
        DUE.is("table 1, all that there can be", x.told(1), 96);
        x.row(1, 0, 0, 0, 0);
        DUE.is("one refused", x.told(1), 96);
        x.seal(1);
        x.read(1, 0);
        DUE.is("sealed and read", x.told(1), 96);
        x.clear(1);
        DUE.is("cleared", x.told(1), 0);
        DUE.is("the other", x.told(0), 1);
    }

    private static void toldReads() {
        DUE.sentence("Promise 23: told", "2 READS done (of BLOCKS that were HALF)");
        SpanStore x = Stores.sealed();
        DUE.is("none yet", x.told(2), 0);
        x.read(0, 0);
        DUE.is("a block without rows", x.told(2), 0);
        x.read(0, 2);
        DUE.is("one that was half", x.told(2), 1);
        x.read(0, 2);
        DUE.is("again", x.told(2), 1);
        x.read(0, 8);
        DUE.is("refused", x.told(2), 1);
        x.read(1, 0);
        DUE.is("one of the other table", x.told(2), 2);
        x.read(1, 1);
        DUE.is("one that is all kept", x.told(2), 2);
        x.refine(0, -1, 0);
        DUE.is("one by refine", x.told(2), 3);
        x.refine(0, -1, 0);
        DUE.is("none by refine", x.told(2), 3);
        x.clear(0);
        DUE.is("they are done, though the table is cleared", x.told(2), 3);
        Due.values(x, 0, 0, 5, 6);
        x.read(0, 0);
        DUE.is("open", x.told(2), 3);
        x.seal(0);
        x.change(0, 0, 0, 5);
        x.change(0, 0, 1, 6);
        x.read(0, 0);
        DUE.is("one that is all changed", x.told(2), 3);
    }

    private static void toldFinding() {
        DUE.sentence("Promise 23: told", "3 the number of the latest FINDING (0 before any)");
        SpanStore x = Stores.mixed();
        DUE.is("before any", x.told(3), 0);
        x.sheet(0, 0, -1);
        DUE.is("SIZE", x.told(3), 5);
        x.copy(0, 0, 1, 0, 1);
        DUE.is("STORE", x.told(3), 4);
        x.put(0, 1, 0, 0);
        DUE.is("CAST by put", x.told(3), 3);
        x.put(0, 0, 12, 0);
        DUE.is("INDEX by put", x.told(3), 2);
        x.lose(3);
        DUE.is("NULL by lose", x.told(3), 1);
        x.get(0, 1, 0);
        DUE.is("CAST by get", x.told(3), 3);
        x.get(3, 1, 0);
        DUE.is("NULL by get", x.told(3), 1);
        x.get(0, 0, 12);
        DUE.is("INDEX by get", x.told(3), 2);
        x.write(0, 3, 3, 3);
        DUE.is("NULL by write", x.told(3), 1);
        x.load(1, 2, 0, 1, 2, 12);
        DUE.is("INDEX by load", x.told(3), 2);
        x.load(1, 2, 0, 1, 3, 12);
        DUE.is("NULL by load", x.told(3), 1);
        x.copy(0, 0, 0, 1, 12);
        DUE.is("INDEX by copy", x.told(3), 2);
        x.copy(3, 0, 0, 1, 12);
        DUE.is("NULL by copy", x.told(3), 1);
    }

    private static void toldSealed() {
        DUE.sentence("Promise 23: told", "4 and 5: whether TABLE 0, 1 is SEALED");
        SpanStore x = new SpanStore();
        DUE.is("0 at first", x.told(4), 0);
        DUE.is("1 at first", x.told(5), 0);
        x.seal(1);
        DUE.is("0 still", x.told(4), 0);
        DUE.is("1 sealed", x.told(5), 1);
        x.seal(0);
        x.clear(1);
        DUE.is("0 sealed", x.told(4), 1);
        DUE.is("1 cleared", x.told(5), 0);
    }

    private static void toldKeepers() {
        DUE.sentence("Promise 23: told", "6 and 7: KEEPERS of it");
        SpanStore x = new SpanStore();
        for (int i = 1; i <= 4; i++) {
            x.keeper(1, 1, 1, 0);
            DUE.is("table 0", x.told(6), 0);
            DUE.is("table 1", x.told(7), i);
        }
        x.keeper(1, 1, 1, 0);
        x.keeper(0, 4, 1, 0);
        DUE.is("refused", x.told(7), 4);
        DUE.is("refused", x.told(6), 0);
        x.keeper(0, 2, 2, 1);
        x.seal(1);
        DUE.is("sealed", x.told(7), 4);
        x.clear(1);
        DUE.is("cleared", x.told(7), 0);
        DUE.is("the other", x.told(6), 1);
    }

    private static void toldKnown() {
        DUE.sentence("Promise 23: told", "8 and 9: ROWS KNOWN (SEALED ones; else 0)");
        SpanStore x = Stores.open();
        DUE.is("0 open", x.told(8), 0);
        DUE.is("1 open", x.told(9), 0);
        x.seal(0);
        DUE.is("0 sealed", x.told(8), 7);
        DUE.is("1 open still", x.told(9), 0);
        x.change(0, 2, 0, 0);
        DUE.is("a known one is changed", x.told(8), 7);
        x.change(0, 2, 1, 0);
        DUE.is("another is changed", x.told(8), 8);
        x.read(0, 2);
        DUE.is("a block is read", x.told(8), 10);
        x.refine(0, -1, 0);
        DUE.is("all", x.told(8), 17);
        x.clear(0);
        DUE.is("cleared", x.told(8), 0);
        Due.values(x, 0, 2, 1, 2);
        DUE.is("open again", x.told(8), 0);
        x.seal(1);
        DUE.is("the other", x.told(9), 9);
    }

    private static void toldBad() {
        DUE.sentence("Promise 23: told", "(SEALED ones; else 0). BAD.");
        for (int what : new int[] {-1, 10, 11, TOP, BOTTOM}) {
            NO.refused("told(" + what + ")", MIXED, x -> x.told(what), BAD);
        }
    }

    /** The digest by its sentence, from what a twin of the object tells, in whole numbers that do not wrap. */
    private static BigInteger digestOf(SpanStore twin) {
        BigInteger h = BigInteger.valueOf(17);
        for (int what : new int[] {0, 1, 2, 4, 5, 6, 7, 8, 9}) {
            h = mixed(h, twin.told(what));
        }
        for (int table = 0; table < 2; table++) {
            if (twin.told(4 + table) == 1) {
                for (int block = 0; block < 8; block++) {
                    h = blockOf(h, twin, table, block);
                }
                h = mixed(h, twin.sum(table, -1, 0));
                h = mixed(h, twin.sum(table, -1, 1));
            }
        }
        return h;
    }

    private static BigInteger blockOf(BigInteger start, SpanStore twin, int table, int block) {
        BigInteger h = start;
        for (int what : new int[] {0, 1, 2, 3, 4, 5, 6, 7, 10, 11, 12, 13}) {
            h = mixed(h, twin.about(table, block, what));
        }
        int rows = twin.about(table, block, 0);
        for (int row = 0; row < rows; row++) {
            int value = twin.value(table, block, row);
            if (value != Due.LEAST_INT) {
                h = mixed(mixed(h, row), value);
            }
        }
        return h;
    }

    private static BigInteger mixed(BigInteger h, long item) {
        return h.multiply(BigInteger.valueOf(31)).add(BigInteger.valueOf(item));
    }

    private static void digestStart() {
        DUE.sentence("Promise 24: digest", "h is 17; h becomes 31 h and each of");
        long nine = 1;
        for (int i = 0; i < 9; i++) {
            nine *= 31;
        }
        SpanStore x = new SpanStore();
        DUE.is("a new object", x.digest(), 17 * nine);
        x.row(0, 0, 0, 0, 0);
        DUE.is("a row of table 0", x.digest(), (17 * 31 + 1) * (nine / 31));
        DUE.is("asked again", x.digest(), (17 * 31 + 1) * (nine / 31));
    }

    private static void digestTold() {
        DUE.sentence("Promise 24: digest", "told() 0, 1, 2, 4 to 9");
        SpanStore x = Stores.open();
        DUE.is("open", x.digest(), digestOf(Stores.open()).longValue());
        x.sheet(0, 0, -1);
        DUE.is("told() 3 is not in it", x.digest(), digestOf(Stores.open()).longValue());
        x.put(0, 0, 0, 1);
        x.lose(1);
        DUE.is("nor are sheets", x.digest(), digestOf(Stores.open()).longValue());
        x.seal(1);
        x.read(1, 0);
        x.clear(1);
        SpanStore y = Stores.open();
        y.clear(1);
        DUE.is("but told() 2 is", x.digest(), digestOf(y).add(BigInteger.valueOf(31).pow(6)).longValue());
    }

    private static void digestOfSealed() {
        DUE.sentence("Promise 24: digest", "of each BLOCK of a SEALED TABLE about() 0 to 7, 10 to 13, each KNOWN ROW's "
                + "number and VALUE, both ends of THE SUM of all of a SEALED TABLE");
        DUE.is("table 0 sealed", Stores.mixed().digest(), digestOf(Stores.mixed()).longValue());
        DUE.is("both sealed", Stores.sealed().digest(), digestOf(Stores.sealed()).longValue());
        DUE.is("changed and read", altered().digest(), digestOf(altered()).longValue());
        SpanStore x = altered();
        x.clear(0);
        SpanStore y = altered();
        y.clear(0);
        DUE.is("table 1 sealed", x.digest(), digestOf(y).longValue());
        SpanStore z = new SpanStore();
        z.seal(1);
        SpanStore twin = new SpanStore();
        twin.seal(1);
        DUE.is("no rows", z.digest(), digestOf(twin).longValue());
    }

    private static SpanStore altered() {
        SpanStore x = Stores.sealed();
        x.change(0, 2, 1, 1000);
        x.change(0, 2, 0, -1000);
        x.read(0, 5);
        x.change(1, 0, 0, 7);
        return x;
    }

    private static void digestWraps() {
        DUE.sentence("Promise 24: digest", "as longs that wrap");
        BigInteger whole = digestOf(altered());
        DUE.holds("more than a long can hold", whole.abs().bitLength() > 64);
        DUE.is("the lowest 64 bits of it", altered().digest(), whole.longValue());
        BigInteger sealed = digestOf(Stores.sealed());
        DUE.is("and of another", Stores.sealed().digest(), sealed.longValue());
    }
}
