import java.util.function.Supplier;

/** Promises 15 and 16: a test for each sentence that names a boundary. */
public final class NextEdgesTest {
    private static final Due DUE = new Due();
    private static final Refusals NO = new Refusals(DUE);
    private static final int TOP = Stores.TOP, BOTTOM = Stores.BOTTOM;
    private static final int BAD = SpanStore.BAD, STATE = SpanStore.STATE, NONE = SpanStore.NONE;
    private static final Supplier<SpanStore> MIXED = Stores::mixed, SEALED = Stores::sealed;

    public static void main(String[] args) {
        farthest();
        ofItAlone();
        ofLikeOnes();
        nowhere();
        nextRefusals();
        eachThatNextTells();
        atMostSoFarApart();
        howMany();
        apartLimits();
        refineRefusals();
        DUE.end();
    }

    /** Blocks of four rows, 0 and so much twice and 0, so that the ends are twice as much apart. */
    private static SpanStore wide(int... reaches) {
        SpanStore x = new SpanStore();
        for (int block = 0; block < reaches.length; block++) {
            if (reaches[block] >= 0) {
                Due.values(x, 0, block, 0, reaches[block], reaches[block], 0);
            }
        }
        x.seal(0);
        return x;
    }

    private static void farthest() {
        DUE.sentence("Promise 15: next", "The BLOCK for which the ends of THE SUM (of a GROUP, or all), of it alone, "
                + "are farthest apart");
        DUE.is("the first", wide(9, 8, 7).next(0, -1), 0);
        DUE.is("one between", wide(7, 9, 8).next(0, -1), 1);
        DUE.is("the last of eight", wide(1, 2, 3, 4, 5, 6, 7, 8).next(0, -1), 7);
        SpanStore least = new SpanStore();
        Due.values(least, 0, 5, 3, 4, 4);
        least.seal(0);
        DUE.is("ends that are just apart", least.sum(0, -1, 1) - least.sum(0, -1, 0), 1);
        DUE.is("apart by 1", least.next(0, -1), 5);
        SpanStore x = new SpanStore();
        Due.rows(x, 0, 0, new int[][] {{0, 0, 0}, {0, 0, 0}, {0, 1, 50}, {0, 1, 50}, {0, 1, 50}});
        Due.rows(x, 0, 1, new int[][] {{0, 0, 0}, {0, 0, 0}, {0, 0, 0}, {0, 1, 49}});
        x.seal(0);
        DUE.is("all", x.next(0, -1), 0);
        DUE.is("group 0", x.next(0, 0), 1);
        DUE.is("group 1", x.next(0, 1), 0);
        DUE.is("more known, less apart", knownFirst().next(0, -1), 1);
    }

    private static SpanStore knownFirst() {
        SpanStore x = new SpanStore();
        Due.values(x, 0, 0, 0, 90, 0, 45, 7);
        Due.values(x, 0, 1, 0, 61, 0, 30, 7);
        x.seal(0);
        x.change(0, 0, 4, 7);
        x.change(0, 0, 3, 7);
        x.change(0, 0, 2, 7);
        return x;
    }

    private static void ofItAlone() {
        DUE.sentence("Promise 15: next", "of it alone");
        SpanStore x = new SpanStore();
        Due.values(x, 0, 0, -1000, -1000, -1000, -999);
        Due.values(x, 0, 1, -3, -1, -1, 0);
        Due.values(x, 0, 2, 1000, 1000, 1000, 999);
        x.seal(0);
        DUE.is("large sums are not far apart", x.next(0, -1), 1);
        x.read(0, 1);
        DUE.is("far from one another are not far apart", x.next(0, -1), 0);
    }

    private static void ofLikeOnes() {
        DUE.sentence("Promise 15: next", "of like ones the least");
        DUE.is("all alike", wide(5, 5, 5, 5, 5, 5, 5, 5).next(0, -1), 0);
        DUE.is("the last two", wide(-1, 4, 4, 0, 4, 2, 5, 5).next(0, -1), 6);
        DUE.is("a smaller one between", wide(3, 9, 4, 9).next(0, -1), 1);
        SpanStore x = wide(5, 5, 5);
        x.read(0, 0);
        DUE.is("the first is read", x.next(0, -1), 1);
        DUE.is("by a group", wide(-1, 5, 5).next(0, 0), 1);
    }

    private static void nowhere() {
        DUE.sentence("Promise 15: next", "NONE: nowhere are they");
        DUE.is("no rows", wide().next(0, -1), NONE);
        DUE.is("half, but all alike", wide(0, 0).next(0, -1), NONE);
        SpanStore x = wide(5, 5);
        DUE.is("a group without rows", x.next(0, 3), NONE);
        x.read(0, 0);
        x.read(0, 1);
        DUE.is("all read", x.next(0, -1), NONE);
        SpanStore y = new SpanStore();
        Due.values(y, 0, 0, -5, 5);
        y.seal(0);
        DUE.is("half, but both owed by two rows", y.next(0, -1), NONE);
        SpanStore z = new SpanStore();
        Due.values(z, 0, 3, -5, 0, 5);
        z.keeper(0, 0, 1, 0);
        z.seal(0);
        DUE.is("all kept", z.next(0, -1), NONE);
        SpanStore w = wide(0, 0, 0, 0, 0, 0, 0, 0);
        w.change(0, 3, 0, 1000);
        DUE.is("what is changed is no matter", w.next(0, -1), NONE);
    }

    private static void nextRefusals() {
        DUE.sentence("Promise 15: next", "NONE: nowhere are they. BAD; STATE.");
        NO.refused("table 2", SEALED, x -> x.next(2, -1), BAD);
        NO.refused("group -2", SEALED, x -> x.next(0, -2), BAD);
        NO.refused("group 4", SEALED, x -> x.next(0, 4), BAD);
        NO.refused("open", MIXED, x -> x.next(1, -1), STATE);
        NO.refused("open, no rows", SpanStore::new, x -> x.next(0, 3), STATE);
        NO.refused("open, and no such group", MIXED, x -> x.next(1, 4), BAD);
        NO.refused("NONE", () -> wide(0, 0), x -> x.next(0, -1), NONE);
    }

    private static void eachThatNextTells() {
        DUE.sentence("Promise 16: refine", "BLOCKS are READ, each the one that next() tells");
        int[] reaches = {5, 9, 7, 9, 0, 8, 1, 2};
        int[] order = {1, 3, 5, 2, 0, 7, 6};
        SpanStore x = wide(reaches);
        SpanStore twin = wide(reaches);
        for (int block : order) {
            long apart = x.sum(0, -1, 1) - x.sum(0, -1, 0);
            DUE.is("next", twin.next(0, -1), block);
            DUE.is("one", x.refine(0, -1, (int) apart - 1), 1);
            twin.read(0, block);
            DUE.is("that one", x.digest(), twin.digest());
        }
        DUE.is("one that is half, but not apart, is not read", x.about(0, 4, 3), 4);
        SpanStore y = new SpanStore();
        Due.rows(y, 0, 0, new int[][] {{0, 0, 0}, {0, 0, 0}, {0, 1, 50}, {0, 1, 50}, {0, 1, 50}});
        Due.rows(y, 0, 1, new int[][] {{0, 0, 0}, {0, 0, 0}, {0, 0, 0}, {0, 1, 49}});
        y.seal(0);
        DUE.is("by group 0", y.refine(0, 0, 101), 1);
        DUE.is("not what next tells of all", y.about(0, 0, 3), 5);
        DUE.is("but of the group", y.about(0, 1, 3), 0);
    }

    private static void atMostSoFarApart() {
        DUE.sentence("Promise 16: refine", "till the ends of THE SUM are at most so far apart");
        // The ends of these are 20, 40 and 60 apart.
        DUE.is("as far as they are", wide(10, 20, 30).refine(0, -1, 120), 0);
        DUE.is("one less", wide(10, 20, 30).refine(0, -1, 119), 1);
        DUE.is("as far as they are then", wide(10, 20, 30).refine(0, -1, 60), 1);
        DUE.is("one less than that", wide(10, 20, 30).refine(0, -1, 59), 2);
        DUE.is("as far as the last one", wide(10, 20, 30).refine(0, -1, 20), 2);
        DUE.is("less than the last one", wide(10, 20, 30).refine(0, -1, 19), 3);
        SpanStore least = new SpanStore();
        Due.values(least, 0, 5, 3, 4, 4);
        least.seal(0);
        DUE.is("apart by 1, at most 1", least.refine(0, -1, 1), 0);
        DUE.is("apart by 1, at most 0", least.refine(0, -1, 0), 1);
        SpanStore x = wide(10, 20, 30);
        x.refine(0, -1, 60);
        DUE.is("so far apart now", x.sum(0, -1, 1) - x.sum(0, -1, 0), 60);
        DUE.is("a group that has no rows", x.refine(0, 2, 0), 0);
        DUE.is("its group", x.refine(0, 0, 0), 2);
    }

    private static void howMany() {
        DUE.sentence("Promise 16: refine", "how many");
        DUE.is("none without rows", wide().refine(0, -1, 0), 0);
        DUE.is("none that is apart", wide(0, 0, 0).refine(0, -1, 0), 0);
        SpanStore x = wide(1, 2, 3, 4, 5, 6, 7, 8);
        DUE.is("all eight", x.refine(0, -1, 0), 8);
        DUE.is("reads", x.told(2), 8);
        DUE.is("known", x.told(8), 32);
        DUE.is("again", x.refine(0, -1, 0), 0);
        DUE.is("no more reads", x.told(2), 8);
    }

    private static void apartLimits() {
        DUE.sentence("Promise 16: refine", "(0 to 1000000)");
        for (int apart : new int[] {-1, 1000001, TOP, BOTTOM}) {
            NO.refused("apart " + apart, SEALED, x -> x.refine(0, -1, apart), BAD);
        }
        DUE.is("0", wide(1).refine(0, -1, 0), 1);
        DUE.is("1000000", wide(1).refine(0, -1, 1000000), 0);
    }

    private static void refineRefusals() {
        DUE.sentence("Promise 16: refine", "how many. BAD; STATE.");
        NO.refused("table -1", SEALED, x -> x.refine(-1, -1, 0), BAD);
        NO.refused("group -2", SEALED, x -> x.refine(0, -2, 0), BAD);
        NO.refused("group 4", SEALED, x -> x.refine(0, 4, 0), BAD);
        NO.refused("open", MIXED, x -> x.refine(1, -1, 0), STATE);
        NO.refused("open, no rows", SpanStore::new, x -> x.refine(1, 3, 1000000), STATE);
        NO.refused("open, and too far apart", MIXED, x -> x.refine(1, -1, 1000001), BAD);
        NO.refused("nothing to read", SEALED, x -> x.refine(0, -1, 1000000), 0);
    }
}
