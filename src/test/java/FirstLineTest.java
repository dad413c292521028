import java.util.List;
import java.util.Random;

/** The document's first sentence, part by part, on drawn tables whose rows are known here. */
public final class FirstLineTest {
    private static final Due DUE = new Due();
    private static final int SEEDS = 200;
    private static final int[] FROM = {-1000, -1, 0, 2, 15};

    public static void main(String[] args) {
        onlyWhatIsAtHand();
        spansHold();
        worthReadingNext();
        changesWiden();
        readToTheEnd();
        refinedToTheEnd();
        DUE.end();
    }

    private static void onlyWhatIsAtHand() {
        DUE.sentence("What it is", "tables in blocks of which only counts, ends and kept rows are at hand");
        int apartAtLast = 0;
        for (int seed = 1; seed <= SEEDS; seed++) {
            Drawn drawn = Drawn.of(seed);
            SpanStore x = drawn.store();
            SpanStore y = drawn.agreeing(seed).store();
            alike("seed " + seed + " sealed", drawn, x, y);
            DUE.is("seed " + seed + ": join(0)", y.join(0), x.join(0));
            DUE.is("seed " + seed + ": join(1)", y.join(1), x.join(1));
            changeBoth(seed, drawn, x, y);
            alike("seed " + seed + " changed", drawn, x, y);
            readAll(x);
            readAll(y);
            apartAtLast += x.digest() != y.digest() ? 1 : 0;
        }
        DUE.holds("most of them were not the same tables", apartAtLast > SEEDS / 2);
    }

    /** Hidden rows are changed too. Their keys are known then, so that joins may differ, but nothing else may. */
    private static void changeBoth(int seed, Drawn drawn, SpanStore x, SpanStore y) {
        Random random = new Random(seed);
        for (int i = 0; i < 4; i++) {
            int table = random.nextInt(2), block = random.nextInt(8), row = random.nextInt(6);
            int value = random.nextInt(41) - 20;
            int due = row < drawn.rows(table, block) ? 1 : SpanStore.BAD;
            DUE.is("change", x.change(table, block, row, value), due);
            DUE.is("change of the other", y.change(table, block, row, value), due);
        }
    }

    private static void alike(String when, Drawn drawn, SpanStore x, SpanStore y) {
        DUE.is(when + ": digest()", y.digest(), x.digest());
        for (int t = 0; t < 2; t++) {
            for (int group = -1; group <= 3; group++) {
                String of = "(" + t + ", " + group;
                DUE.is(when + ": sum" + of + ", 0)", y.sum(t, group, 0), x.sum(t, group, 0));
                DUE.is(when + ": sum" + of + ", 1)", y.sum(t, group, 1), x.sum(t, group, 1));
                DUE.is(when + ": next" + of + ")", y.next(t, group), x.next(t, group));
            }
            for (int from : FROM) {
                String of = "(" + t + ", " + from;
                DUE.is(when + ": count" + of + ", 0)", y.count(t, from, 0), x.count(t, from, 0));
                DUE.is(when + ": count" + of + ", 1)", y.count(t, from, 1), x.count(t, from, 1));
            }
            for (int[] k : drawn.keepersOf(t)) {
                if (k[0] == 2) {
                    DUE.is(when + ": part", y.part(k[1], k[2]), x.part(k[1], k[2]));
                }
            }
        }
    }

    private static void spansHold() {
        DUE.sentence("What it is", "sums, counts and joins as spans that hold for each table that agrees with that");
        for (int seed = 1; seed <= SEEDS; seed++) {
            Random random = new Random(seed);
            Drawn drawn = Drawn.of(seed);
            SpanStore x = drawn.store();
            holds("seed " + seed + " sealed", drawn, x);
            partsAreExact("seed " + seed, drawn, x);
            for (int step = 1; step <= 5; step++) {
                alter(random, drawn, x);
                holds("seed " + seed + " step " + step, drawn, x);
            }
        }
    }

    private static void alter(Random random, Drawn drawn, SpanStore x) {
        int table = random.nextInt(2), block = random.nextInt(8);
        int rows = drawn.rows(table, block);
        if (rows == 0 || random.nextInt(3) == 0) {
            x.read(table, block);
            return;
        }
        int row = random.nextInt(rows), value = random.nextInt(2001) - 1000;
        x.change(table, block, row, value);
        drawn.change(table, block, row, value);
    }

    private static void between(String what, long least, long truth, long greatest) {
        DUE.holds(what + " is " + truth + ", told are " + least + " to " + greatest, least <= truth && truth <= greatest);
    }

    private static void holds(String when, Drawn drawn, SpanStore x) {
        for (int t = 0; t < 2; t++) {
            for (int group = -1; group <= 3; group++) {
                between(when + ": sum of " + t + ", " + group, x.sum(t, group, 0), drawn.sum(t, group), x.sum(t, group, 1));
            }
            for (int from : FROM) {
                between(when + ": count of " + t + ", " + from, x.count(t, from, 0), drawn.count(t, from), x.count(t, from, 1));
            }
        }
        between(when + ": join", x.join(0), drawn.join(), x.join(1));
    }

    /** A part of the join is exact ahead of any read, if both tables have its keeper. */
    private static void partsAreExact(String when, Drawn drawn, SpanStore x) {
        for (int[] k : drawn.keepersOf(0)) {
            int part = k[0] == 2 ? x.part(k[1], k[2]) : SpanStore.NOT;
            if (part != SpanStore.NOT) {
                DUE.is(when + ": part of " + k[1] + ", " + k[2], part, drawn.part(k[1], k[2]));
            }
        }
    }

    private static long apart(SpanStore x, int group) {
        return x.sum(0, group, 1) - x.sum(0, group, 0);
    }

    /** Each block is read in a store of its own; none narrows the sum more than the one that was told. */
    private static void worthReadingNext() {
        DUE.sentence("What it is", "the block told that is worth reading next");
        for (int seed = 1; seed <= SEEDS / 4; seed++) {
            Drawn drawn = Drawn.of(seed);
            for (int group = -1; group <= 3; group++) {
                int best = SpanStore.NONE;
                long most = 0;
                for (int block = 0; block < 8; block++) {
                    SpanStore x = drawn.store();
                    long before = apart(x, group);
                    x.read(0, block);
                    long narrower = before - apart(x, group);
                    best = narrower > most ? block : best;
                    most = Math.max(most, narrower);
                }
                DUE.is("seed " + seed + ": next(0, " + group + ")", drawn.store().next(0, group), best);
            }
        }
    }

    private static void changesWiden() {
        DUE.sentence("What it is", "changes that widen");
        SpanStore x = Stores.block(new int[0][], -5, 5, 0);
        DUE.is("apart ahead of it", apart(x, -1), 10);
        DUE.is("least count ahead of it", x.count(0, 1, 0), 1);
        DUE.is("greatest count ahead of it", x.count(0, 1, 1), 2);
        x.change(0, 0, 2, 0);
        DUE.is("apart behind it", apart(x, -1), 20);
        DUE.is("least count behind it", x.count(0, 1, 0), 0);
        DUE.is("greatest count behind it", x.count(0, 1, 1), 2);
        x.read(0, 0);
        DUE.is("apart behind a read", apart(x, -1), 0);
        x.change(0, 0, 2, 1000);
        DUE.is("a known one widens nothing", apart(x, -1), 0);
    }

    private static void readAll(SpanStore x) {
        for (int block = 0; block < 8; block++) {
            x.read(0, block);
            x.read(1, block);
        }
    }

    private static void readToTheEnd() {
        DUE.sentence("What it is", "read to the end all is exact");
        for (int seed = 1; seed <= SEEDS; seed++) {
            Random random = new Random(seed);
            Drawn drawn = Drawn.of(seed);
            SpanStore x = drawn.store();
            for (int step = random.nextInt(4); step > 0; step--) {
                alter(random, drawn, x);
            }
            readAll(x);
            exact("seed " + seed, drawn, x);
            alter(random, drawn, x);
            exact("seed " + seed + " changed behind it", drawn, x);
        }
    }

    private static void exact(String when, Drawn drawn, SpanStore x) {
        for (int end = 0; end < 2; end++) {
            for (int t = 0; t < 2; t++) {
                for (int group = -1; group <= 3; group++) {
                    DUE.is(when + ": sum(" + t + ", " + group + ", " + end + ")", x.sum(t, group, end), drawn.sum(t, group));
                }
                for (int from : FROM) {
                    DUE.is(when + ": count(" + t + ", " + from + ", " + end + ")", x.count(t, from, end), drawn.count(t, from));
                }
            }
            DUE.is(when + ": join(" + end + ")", x.join(end), drawn.join());
        }
        for (int t = 0; t < 2; t++) {
            DUE.is(when + ": next", x.next(t, -1), SpanStore.NONE);
            DUE.is(when + ": refine", x.refine(t, -1, 0), 0);
            DUE.is(when + ": known", x.told(8 + t), drawn.rows(t));
        }
    }

    /** Where a sum alone is to be exact, refine reads what it needs, and no more than that. */
    private static void refinedToTheEnd() {
        DUE.sentence("Promise 16: refine", "till the ends of THE SUM are at most so far apart");
        List<Integer> limits = List.of(0, 1, 40, 1000, 1000000);
        for (int seed = 1; seed <= SEEDS; seed++) {
            Drawn drawn = Drawn.of(seed);
            for (int apart : limits) {
                int group = seed % 5 - 1;
                SpanStore x = drawn.store();
                SpanStore byHand = drawn.store();
                int reads = 0;
                while (apart(byHand, group) > apart && reads < 9) {
                    byHand.read(0, byHand.next(0, group));
                    reads++;
                }
                DUE.is("seed " + seed + ": refine to " + apart, x.refine(0, group, apart), reads);
                DUE.holds("seed " + seed + ": at most " + apart, apart(x, group) <= apart);
                DUE.is("seed " + seed + ": the same blocks", x.digest(), byHand.digest());
                between("seed " + seed, x.sum(0, group, 0), drawn.sum(0, group), x.sum(0, group, 1));
            }
        }
    }
}
