import java.util.Random;

/**
 * Promises 11 and 12 by what they are for: small blocks are sealed and changed, all blocks that agree with
 * what is told are gone through one by one, and the least and greatest sum and count among them are due.
 */
public final class AgreementTest {
    private static final Due DUE = new Due();
    private static final int REACH = 2;

    private final Random random;
    private final SpanStore store = new SpanStore();
    private final int rows;
    private final int[] asSealed, now, group;
    private final boolean[] kept, known;
    private final int heavy;
    private long leastSum, greatestSum;
    private int leastCount, greatestCount;
    private int toldLeast, toldGreatest;

    private AgreementTest(long seed) {
        random = new Random(seed);
        rows = 1 + random.nextInt(5);
        asSealed = new int[rows];
        now = new int[rows];
        group = new int[rows];
        kept = new boolean[rows];
        known = new boolean[rows];
        heavy = random.nextInt(3) == 0 ? 1 + random.nextInt(REACH) : 0;
    }

    public static void main(String[] args) {
        for (int seed = 1; seed <= 1500; seed++) {
            AgreementTest t = new AgreementTest(seed);
            t.fill();
            t.look("seed " + seed + " sealed");
            t.alter();
            t.look("seed " + seed + " changed");
        }
        DUE.end();
    }

    private void fill() {
        for (int i = 0; i < rows; i++) {
            asSealed[i] = random.nextInt(2 * REACH + 1) - REACH;
            now[i] = asSealed[i];
            group[i] = random.nextInt(2);
            store.row(0, 3, 0, group[i], asSealed[i]);
        }
        int every = random.nextInt(3) * 2;
        if (every > 0) {
            store.keeper(0, 0, every, 0);
        }
        if (heavy > 0) {
            store.keeper(0, 3, heavy, 0);
        }
        store.seal(0);
        for (int i = 0; i < rows; i++) {
            kept[i] = every > 0 && i % every == 0 || heavy > 0 && Math.abs(asSealed[i]) >= heavy;
            known[i] = kept[i];
        }
    }

    private void alter() {
        for (int i = random.nextInt(3); i > 0; i--) {
            int row = random.nextInt(rows);
            now[row] = random.nextInt(2 * REACH + 1) - REACH;
            known[row] = true;
            store.change(0, 3, row, now[row]);
        }
    }

    private void look(String when) {
        toldLeast = store.about(0, 3, 1);
        toldGreatest = store.about(0, 3, 2);
        for (int g = -1; g < 2; g++) {
            for (int x = -REACH - 1; x <= REACH + 1; x++) {
                goThrough(g, x);
                DUE.is(when + " least sum of " + g, store.sum(0, g, 0), leastSum);
                DUE.is(when + " greatest sum of " + g, store.sum(0, g, 1), greatestSum);
                DUE.is(when + " least count of " + x, store.count(0, x, 0), leastCount);
                DUE.is(when + " greatest count of " + x, store.count(0, x, 1), greatestCount);
            }
        }
    }

    private void goThrough(int g, int x) {
        leastSum = Long.MAX_VALUE;
        greatestSum = Long.MIN_VALUE;
        leastCount = Integer.MAX_VALUE;
        greatestCount = Integer.MIN_VALUE;
        tryRow(0, asSealed.clone(), g, x);
    }

    private void tryRow(int row, int[] can, int g, int x) {
        if (row == rows) {
            weigh(can, g, x);
            return;
        }
        if (kept[row]) {
            tryRow(row + 1, can, g, x);
            return;
        }
        for (int v = -REACH; v <= REACH; v++) {
            if (heavy == 0 || Math.abs(v) < heavy) {
                can[row] = v;
                tryRow(row + 1, can, g, x);
            }
        }
    }

    private void weigh(int[] can, int g, int x) {
        int least = REACH;
        int greatest = -REACH;
        long sum = 0;
        int count = 0;
        for (int i = 0; i < rows; i++) {
            least = Math.min(least, can[i]);
            greatest = Math.max(greatest, can[i]);
            int value = known[i] ? now[i] : can[i];
            sum += g == -1 || group[i] == g ? value : 0;
            count += value >= x ? 1 : 0;
        }
        if (least != toldLeast || greatest != toldGreatest) {
            return;
        }
        leastSum = Math.min(leastSum, sum);
        greatestSum = Math.max(greatestSum, sum);
        leastCount = Math.min(leastCount, count);
        greatestCount = Math.max(greatestCount, count);
    }
}
