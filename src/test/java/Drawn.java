import java.util.ArrayList;
import java.util.List;
import java.util.Random;

/** Two tables drawn by a seed. All their rows are known here, whatever the store that is made of them tells. */
final class Drawn {
    private static final int TABLES = 2, BLOCKS = 8;

    /** Key, group and value of each row, by tables, then blocks. */
    private final List<List<List<int[]>>> tables = new ArrayList<>();
    private final List<List<int[]>> keepers = new ArrayList<>();

    private Drawn() {
    }

    /** At most 96 rows in all, so that a store is made of them in little more than 100 calls. */
    static Drawn of(long seed) {
        Random random = new Random(seed);
        Drawn drawn = new Drawn();
        int reach = new int[] {2, 20, 1000}[random.nextInt(3)];
        int most = random.nextInt(6) == 0 ? 12 : 6;
        for (int t = 0; t < TABLES; t++) {
            List<List<int[]>> blocks = new ArrayList<>();
            for (int b = 0; b < BLOCKS; b++) {
                boolean has = most < 12 || b % 2 == t;
                blocks.add(rows(random, has ? random.nextInt(most + 1) : 0, reach));
            }
            drawn.tables.add(blocks);
            drawn.keepers.add(keepers(random, reach));
        }
        if (random.nextInt(3) == 0) {
            drawn.keepAlike(1 + random.nextInt(4));
        }
        return drawn;
    }

    /** Both tables have one more keeper, KEYED a, 0, so that a part of their join is told. */
    private void keepAlike(int a) {
        for (List<int[]> ofTable : keepers) {
            ofTable.add(new int[] {2, a, 0});
        }
    }

    private static List<int[]> rows(Random random, int n, int reach) {
        List<int[]> rows = new ArrayList<>();
        for (int i = 0; i < n; i++) {
            int key = random.nextBoolean() ? random.nextInt(4) : random.nextInt(100);
            rows.add(new int[] {key, random.nextInt(4), random.nextInt(2 * reach + 1) - reach});
        }
        return rows;
    }

    private static List<int[]> keepers(Random random, int reach) {
        List<int[]> keepers = new ArrayList<>();
        for (int i = random.nextInt(3); i > 0; i--) {
            int kind = random.nextInt(4);
            int a = kind == 3 ? 1 + random.nextInt(reach) : 2 + random.nextInt(4);
            keepers.add(new int[] {kind, a, kind == 2 ? random.nextInt(a) : 0});
        }
        return keepers;
    }

    /** A store of these rows and keepers, both tables sealed. */
    SpanStore store() {
        SpanStore x = new SpanStore();
        for (int t = 0; t < TABLES; t++) {
            for (int[] k : keepers.get(t)) {
                x.keeper(t, k[0], k[1], k[2]);
            }
            for (int b = 0; b < BLOCKS; b++) {
                Due.rows(x, t, b, tables.get(t).get(b).toArray(new int[0][]));
            }
        }
        x.seal(0);
        x.seal(1);
        return x;
    }

    /**
     * Tables that agree with all that is at hand of these: in each block the rows that the store of these does
     * not know have their keys and values in another order.
     */
    Drawn agreeing(long seed) {
        Random random = new Random(seed);
        SpanStore x = store();
        Drawn other = new Drawn();
        for (int t = 0; t < TABLES; t++) {
            List<List<int[]>> blocks = new ArrayList<>();
            for (int b = 0; b < BLOCKS; b++) {
                blocks.add(mixed(random, x, t, b));
            }
            other.tables.add(blocks);
            other.keepers.add(keepers.get(t));
        }
        return other;
    }

    private List<int[]> mixed(Random random, SpanStore x, int table, int block) {
        List<int[]> rows = new ArrayList<>();
        List<Integer> hidden = new ArrayList<>();
        for (int[] r : tables.get(table).get(block)) {
            if (x.value(table, block, rows.size()) == Due.LEAST_INT) {
                hidden.add(rows.size());
            }
            rows.add(r.clone());
        }
        for (int i = hidden.size() - 1; i > 0; i--) {
            int[] one = rows.get(hidden.get(i));
            int[] two = rows.get(hidden.get(random.nextInt(i + 1)));
            swap(one, two, 0);
            swap(one, two, 2);
        }
        return rows;
    }

    private static void swap(int[] one, int[] two, int place) {
        int item = one[place];
        one[place] = two[place];
        two[place] = item;
    }

    List<int[]> keepersOf(int table) {
        return keepers.get(table);
    }

    int rows(int table, int block) {
        return tables.get(table).get(block).size();
    }

    int rows(int table) {
        return all(table).size();
    }

    void change(int table, int block, int row, int value) {
        tables.get(table).get(block).get(row)[2] = value;
    }

    private List<int[]> all(int table) {
        List<int[]> rows = new ArrayList<>();
        tables.get(table).forEach(rows::addAll);
        return rows;
    }

    long sum(int table, int group) {
        return all(table).stream().filter(r -> group == -1 || r[1] == group).mapToLong(r -> r[2]).sum();
    }

    long count(int table, int x) {
        return all(table).stream().filter(r -> r[2] >= x).count();
    }

    long join() {
        return all(0).stream().mapToLong(r -> all(1).stream().filter(s -> s[0] == r[0]).count()).sum();
    }

    /** The pairs of rows whose key is b modulo a. */
    long part(int a, int b) {
        return all(0).stream().filter(r -> r[0] % a == b)
                .mapToLong(r -> all(1).stream().filter(s -> s[0] == r[0]).count()).sum();
    }
}
