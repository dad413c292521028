import java.util.ArrayList;
import java.util.List;

/**
 * A second, plain writing of the document: rows as objects in lists, sheets as Java's own arrays, and
 * every answer worked out anew from them.
 */
final class Model {
    private static final int BAD = -2, STATE = -3, FULL = -4, NOT = -5;
    private static final int LEAST_INT = Integer.MIN_VALUE;

    private static final class Row {
        int key, group, value, asSealed;
        boolean kept, known;
    }

    private static final class Table {
        final List<List<Row>> blocks = new ArrayList<>();
        final List<int[]> keepers = new ArrayList<>();
        boolean sealed;

        Table() {
            for (int i = 0; i < 8; i++) {
                blocks.add(new ArrayList<>());
            }
        }

        List<Row> all() {
            List<Row> rows = new ArrayList<>();
            blocks.forEach(rows::addAll);
            return rows;
        }

        long known() {
            return all().stream().filter(r -> r.known).count();
        }
    }

    private final Table[] tables = {new Table(), new Table()};
    private final Object[] sheets = new Object[4];
    private int reads;
    private int finding;

    private static boolean in(int n, int from, int to) {
        return n >= from && n <= to;
    }

    private int found(int number) {
        finding = number;
        return -10 - number;
    }

    private static boolean isRow(int key, int group, int value) {
        return in(key, 0, 99) && in(group, 0, 3) && in(value, -1000, 1000);
    }

    private static boolean place(int table, int block) {
        return in(table, 0, 1) && in(block, 0, 7);
    }

    int row(int table, int block, int key, int group, int value) {
        if (!place(table, block) || !isRow(key, group, value)) return BAD;
        if (tables[table].sealed) return STATE;
        List<Row> b = tables[table].blocks.get(block);
        if (b.size() == 12) return FULL;
        Row r = new Row();
        r.key = key;
        r.group = group;
        r.value = value;
        b.add(r);
        return b.size() - 1;
    }

    int load(int table, int block, int k, int g, int v, int n) {
        if (!place(table, block) || !in(k, 0, 3) || !in(g, 0, 3) || !in(v, 0, 3) || !in(n, 1, 12)) return BAD;
        if (tables[table].sealed) return STATE;
        if (tables[table].blocks.get(block).size() + n > 12) return FULL;
        if (sheets[k] == null || sheets[g] == null || sheets[v] == null) return found(1);
        if (length(sheets[k]) < n || length(sheets[g]) < n || length(sheets[v]) < n) return found(2);
        for (int i = 0; i < n; i++) {
            if (!isRow(item(sheets[k], i), item(sheets[g], i), item(sheets[v], i))) return BAD;
        }
        for (int i = 0; i < n; i++) {
            row(table, block, item(sheets[k], i), item(sheets[g], i), item(sheets[v], i));
        }
        return tables[table].blocks.get(block).size();
    }

    int keeper(int table, int kind, int a, int b) {
        if (!in(table, 0, 1) || !in(kind, 0, 3)) return BAD;
        int[] top = {12, 12, 100, 1000};
        if (!in(a, 1, top[kind]) || !in(b, 0, kind == 2 ? a - 1 : 0)) return BAD;
        if (tables[table].sealed) return STATE;
        if (tables[table].keepers.size() == 4) return FULL;
        tables[table].keepers.add(new int[] {kind, a, b});
        return tables[table].keepers.size();
    }

    int seal(int table) {
        if (!in(table, 0, 1)) return BAD;
        Table t = tables[table];
        if (t.sealed) return STATE;
        t.sealed = true;
        for (List<Row> block : t.blocks) {
            for (int[] keeper : t.keepers) {
                keep(block, keeper[0], keeper[1], keeper[2]);
            }
            for (Row r : block) {
                r.asSealed = r.value;
                r.known = r.kept;
            }
        }
        return (int) t.known();
    }

    private static void keep(List<Row> block, int kind, int a, int b) {
        int[] seen = new int[4];
        for (int i = 0; i < block.size(); i++) {
            Row r = block.get(i);
            r.kept |= kind == 0 && i / a * a == i;
            r.kept |= kind == 1 && seen[r.group]++ < a;
            r.kept |= kind == 2 && r.key % a == b;
            r.kept |= kind == 3 && (r.value >= a || r.value <= -a);
        }
    }

    int clear(int table) {
        if (!in(table, 0, 1)) return BAD;
        int had = tables[table].all().size();
        tables[table] = new Table();
        return had;
    }

    int read(int table, int block) {
        if (!place(table, block)) return BAD;
        if (!tables[table].sealed) return STATE;
        int unread = 0;
        for (Row r : tables[table].blocks.get(block)) {
            unread += r.known ? 0 : 1;
            r.known = true;
        }
        reads += unread > 0 ? 1 : 0;
        return unread;
    }

    /** A changed row that was not kept and of a half block was changed while it was not known. */
    int change(int table, int block, int row, int value) {
        if (!place(table, block) || !in(value, -1000, 1000)) return BAD;
        List<Row> b = tables[table].blocks.get(block);
        if (!in(row, 0, b.size() - 1)) return BAD;
        if (!tables[table].sealed) return STATE;
        b.get(row).value = value;
        b.get(row).known = true;
        return 1;
    }

    int value(int table, int block, int row) {
        if (!place(table, block) || !tables[table].sealed) return LEAST_INT;
        List<Row> b = tables[table].blocks.get(block);
        return in(row, 0, b.size() - 1) && b.get(row).known ? b.get(row).value : LEAST_INT;
    }

    /** Count, least, greatest, rows not known, low, high, least owed, greatest owed, two of no use, groups. */
    private int[] facts(int table, int block) {
        List<Row> b = tables[table].blocks.get(block);
        int[] f = new int[14];
        f[0] = b.size();
        f[1] = b.stream().mapToInt(r -> r.asSealed).min().orElse(0);
        f[2] = b.stream().mapToInt(r -> r.asSealed).max().orElse(0);
        f[3] = (int) b.stream().filter(r -> !r.known).count();
        for (Row r : b) {
            f[10 + r.group]++;
        }
        if (f[3] == 0) return f;
        f[4] = f[1];
        f[5] = f[2];
        for (int[] keeper : tables[table].keepers) {
            while (keeper[0] == 3 && f[4] <= -keeper[1]) f[4]++;
            while (keeper[0] == 3 && f[5] >= keeper[1]) f[5]--;
        }
        boolean unseen = b.stream().anyMatch(r -> r.known && !r.kept);
        f[6] = !unseen && f[4] == f[1] && b.stream().noneMatch(r -> r.kept && r.asSealed == f[1]) ? 1 : 0;
        f[7] = !unseen && f[5] == f[2] && b.stream().noneMatch(r -> r.kept && r.asSealed == f[2]) ? 1 : 0;
        return f;
    }

    int about(int table, int block, int what) {
        boolean good = place(table, block) && (in(what, 0, 7) || in(what, 10, 13));
        return good && tables[table].sealed ? facts(table, block)[what] : LEAST_INT;
    }

    private long blockSum(int table, int block, int group, int end) {
        long sum = 0;
        int n = 0;
        for (Row r : tables[table].blocks.get(block)) {
            boolean counts = group == -1 || r.group == group;
            sum += counts && r.known ? r.value : 0;
            n += counts && !r.known ? 1 : 0;
        }
        int[] f = facts(table, block);
        if (n == 0) return sum;
        int near = n == f[3] ? f[5] - f[4] : 0;
        return end == 0 ? sum + n * f[4] + f[7] * near : sum + n * f[5] - f[6] * near;
    }

    long sum(int table, int group, int end) {
        if (!in(table, 0, 1) || !in(group, -1, 3) || !in(end, 0, 1) || !tables[table].sealed) return Long.MIN_VALUE;
        long sum = 0;
        for (int i = 0; i < 8; i++) {
            sum += blockSum(table, i, group, end);
        }
        return sum;
    }

    int count(int table, int x, int end) {
        if (!in(table, 0, 1) || !in(end, 0, 1)) return BAD;
        if (!tables[table].sealed) return STATE;
        int count = (int) tables[table].all().stream().filter(r -> r.known && r.value >= x).count();
        for (int i = 0; i < 8; i++) {
            int[] f = facts(table, i);
            if (f[3] == 0 || f[5] < x) continue;
            if (f[4] >= x) count += f[3];
            else count += end == 0 ? f[7] : f[3] - f[6];
        }
        return count;
    }

    private int pairs(int a, int b) {
        int pairs = 0;
        for (Row r : tables[0].all()) {
            for (Row s : tables[1].all()) {
                pairs += r.known && s.known && r.key == s.key && r.key % a == b ? 1 : 0;
            }
        }
        return pairs;
    }

    int join(int end) {
        if (!in(end, 0, 1)) return BAD;
        if (!tables[0].sealed || !tables[1].sealed) return STATE;
        int more = 0;
        for (Row r : tables[0].all()) {
            for (Row s : tables[1].all()) {
                more += r.known && s.known ? 0 : end;
            }
        }
        return pairs(1, 0) + more;
    }

    int part(int a, int b) {
        if (!in(a, 1, 100) || !in(b, 0, a - 1)) return BAD;
        if (!tables[0].sealed || !tables[1].sealed) return STATE;
        for (Table t : tables) {
            if (t.keepers.stream().noneMatch(k -> k[0] == 2 && k[1] == a && k[2] == b)) return NOT;
        }
        return pairs(a, b);
    }

    int next(int table, int group) {
        if (!in(table, 0, 1) || !in(group, -1, 3)) return BAD;
        if (!tables[table].sealed) return STATE;
        long[] apart = new long[8];
        long most = 0;
        for (int i = 0; i < 8; i++) {
            apart[i] = blockSum(table, i, group, 1) - blockSum(table, i, group, 0);
            most = Math.max(most, apart[i]);
        }
        for (int i = 0; i < 8 && most > 0; i++) {
            if (apart[i] == most) return i;
        }
        return -1;
    }

    int refine(int table, int group, int apart) {
        if (!in(table, 0, 1) || !in(group, -1, 3) || !in(apart, 0, 1000000)) return BAD;
        if (!tables[table].sealed) return STATE;
        int done = 0;
        while (sum(table, group, 1) - sum(table, group, 0) > apart) {
            read(table, next(table, group));
            done++;
        }
        return done;
    }

    private static int length(Object sheet) {
        return java.lang.reflect.Array.getLength(sheet);
    }

    private static int item(Object sheet, int i) {
        return java.lang.reflect.Array.getInt(sheet, i);
    }

    private static int form(Object sheet) {
        return sheet instanceof byte[] ? 0 : sheet instanceof short[] ? 1 : 2;
    }

    private static void store(Object sheet, int i, int v) {
        if (sheet instanceof byte[] bytes) bytes[i] = (byte) v;
        if (sheet instanceof short[] shorts) shorts[i] = (short) v;
        if (sheet instanceof int[] ints) ints[i] = v;
    }

    int sheet(int s, int form, int n) {
        if (!in(s, 0, 3) || !in(form, 0, 2) || n > 40) return BAD;
        if (n < 0) return found(5);
        sheets[s] = form == 0 ? new byte[n] : form == 1 ? new short[n] : new int[n];
        return n;
    }

    int lose(int s) {
        if (!in(s, 0, 3)) return BAD;
        if (sheets[s] == null) return found(1);
        int had = length(sheets[s]);
        sheets[s] = null;
        return had;
    }

    private int fault(int s, int form, int i) {
        if (sheets[s] == null) return found(1);
        if (form(sheets[s]) != form) return found(3);
        return in(i, 0, length(sheets[s]) - 1) ? 0 : found(2);
    }

    int put(int s, int form, int i, int v) {
        if (!in(s, 0, 3) || !in(form, 0, 2)) return BAD;
        int fault = fault(s, form, i);
        if (fault != 0) return fault;
        store(sheets[s], i, v);
        return 1;
    }

    int get(int s, int form, int i) {
        if (!in(s, 0, 3) || !in(form, 0, 2) || fault(s, form, i) != 0) return LEAST_INT;
        return item(sheets[s], i);
    }

    @SuppressWarnings("SuspiciousSystemArraycopy")
    int copy(int s, int i, int t, int j, int n) {
        if (!in(s, 0, 3) || !in(t, 0, 3)) return BAD;
        if (sheets[s] == null || sheets[t] == null) return found(1);
        if (form(sheets[s]) != form(sheets[t])) return found(4);
        boolean fits = (long) i + n <= length(sheets[s]) && (long) j + n <= length(sheets[t]);
        if (i < 0 || j < 0 || n < 0 || !fits) return found(2);
        System.arraycopy(sheets[s], i, sheets[t], j, n);
        return 1;
    }

    int write(int table, int k, int g, int v) {
        if (!in(table, 0, 1) || !in(k, 0, 3) || !in(g, 0, 3) || !in(v, 0, 3)) return BAD;
        if (!tables[table].sealed) return STATE;
        if (sheets[k] == null || sheets[g] == null || sheets[v] == null) return found(1);
        int done = 0;
        for (Row r : tables[table].all()) {
            if (!r.known) continue;
            if (done >= length(sheets[k]) || done >= length(sheets[g]) || done >= length(sheets[v])) break;
            store(sheets[k], done, r.key);
            store(sheets[g], done, r.group);
            store(sheets[v], done, r.value);
            done++;
        }
        return done;
    }

    int told(int what) {
        if (!in(what, 0, 9)) return BAD;
        if (what == 2) return reads;
        if (what == 3) return finding;
        Table t = tables[what % 2];
        if (what < 2) return t.all().size();
        if (what < 6) return t.sealed ? 1 : 0;
        return what < 8 ? t.keepers.size() : (int) t.known();
    }

    long digest() {
        List<Long> items = new ArrayList<>();
        for (int what = 0; what < 10; what++) {
            if (what != 3) items.add((long) told(what));
        }
        for (int table = 0; table < 2; table++) {
            if (!tables[table].sealed) continue;
            for (int block = 0; block < 8; block++) {
                int[] f = facts(table, block);
                for (int what = 0; what < 14; what++) {
                    if (what != 8 && what != 9) items.add((long) f[what]);
                }
                List<Row> b = tables[table].blocks.get(block);
                for (int row = 0; row < b.size(); row++) {
                    if (!b.get(row).known) continue;
                    items.add((long) row);
                    items.add((long) b.get(row).value);
                }
            }
            items.add(sum(table, -1, 0));
            items.add(sum(table, -1, 1));
        }
        long h = 17;
        for (long item : items) {
            h = 31 * h + item;
        }
        return h;
    }
}
