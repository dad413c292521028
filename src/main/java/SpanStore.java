import java.util.Arrays;

/**
 * A store that answers early: two tables in blocks, of which counts, ends and kept rows are at
 * hand, and sums, counts and joins over them as spans that narrow as blocks are read.
 */
public final class SpanStore {
    public static final int NONE = -1, BAD = -2, STATE = -3, FULL = -4, NOT = -5;

    private static final int TABLES = 2, BLOCKS = 8, ROWS = 12, KEEPERS = 4;
    private static final int KEYS = 100, GROUPS = 4, TOP_VALUE = 1000;
    private static final int SHEETS = 4, ITEMS = 40;

    private static final int EVERY = 0, STRATA = 1, KEYED = 2, HEAVY = 3;
    private static final int BYTES = 0, SHORTS = 1, INTS = 2;
    private static final int NULL = 1, INDEX = 2, CAST = 3, STORE = 4, SIZE = 5;

    private static final int ALL_GROUPS = -1;
    private static final int LEAST_END = 0, GREATEST_END = 1;
    private static final int TOP_APART = 1000000;
    private static final int FIRST_GROUP_FACT = 10, LAST_PLAIN_FACT = 7;
    private static final int LAST_TOLD = 9, TOLD_FINDING = 3;

    private final Table[] tables = new Table[TABLES];
    private final Sheet[] sheets = new Sheet[SHEETS];
    /** Made once and used by each join: a run has one room for all its calls. */
    private final int[] keyCounts = new int[KEYS];
    private int reads;
    private int finding;

    public SpanStore() {
        for (int i = 0; i < TABLES; i++) {
            tables[i] = new Table();
        }
        for (int i = 0; i < SHEETS; i++) {
            sheets[i] = new Sheet();
        }
    }

    // ---- tables

    public int row(int table, int block, int key, int group, int value) {
        Table t = tableAt(table);
        Block b = blockAt(t, block);
        if (t == null || b == null || !isRow(key, group, value)) {
            return BAD;
        }
        if (t.sealed) {
            return STATE;
        }
        if (b.size >= ROWS) {
            return FULL;
        }
        b.addRow(key, group, value);
        return b.size - 1;
    }

    public int load(int table, int block, int k, int g, int v, int n) {
        Table t = tableAt(table);
        Block b = blockAt(t, block);
        Sheet keys = sheetAt(k);
        Sheet groups = sheetAt(g);
        Sheet values = sheetAt(v);
        if (t == null || b == null || n < 1 || n > ROWS) {
            return BAD;
        }
        if (keys == null || groups == null || values == null) {
            return BAD;
        }
        if (t.sealed) {
            return STATE;
        }
        if (b.size + n > ROWS) {
            return FULL;
        }
        if (keys.lost || groups.lost || values.lost) {
            return found(NULL);
        }
        if (keys.size < n || groups.size < n || values.size < n) {
            return found(INDEX);
        }
        // All items are looked at ahead of the first row, since a refusal changes nothing.
        for (int i = 0; i < n; i++) {
            if (!isRow(keys.items[i], groups.items[i], values.items[i])) {
                return BAD;
            }
        }
        for (int i = 0; i < n; i++) {
            b.addRow(keys.items[i], groups.items[i], values.items[i]);
        }
        return b.size;
    }

    public int keeper(int table, int kind, int a, int b) {
        Table t = tableAt(table);
        if (t == null || !isKeeper(kind, a, b)) {
            return BAD;
        }
        if (t.sealed) {
            return STATE;
        }
        if (t.keeperCount >= KEEPERS) {
            return FULL;
        }
        t.addKeeper(kind, a, b);
        return t.keeperCount;
    }

    public int seal(int table) {
        Table t = tableAt(table);
        if (t == null) {
            return BAD;
        }
        if (t.sealed) {
            return STATE;
        }
        t.close();
        return t.knownRows();
    }

    public int clear(int table) {
        Table t = tableAt(table);
        if (t == null) {
            return BAD;
        }
        int had = t.rows();
        t.empty();
        return had;
    }

    public int read(int table, int block) {
        Table t = tableAt(table);
        Block b = blockAt(t, block);
        if (t == null || b == null) {
            return BAD;
        }
        if (!t.sealed) {
            return STATE;
        }
        return readBlock(b);
    }

    public int change(int table, int block, int row, int value) {
        Table t = tableAt(table);
        Block b = blockAt(t, block);
        if (t == null || b == null || !b.hasRow(row) || !isValue(value)) {
            return BAD;
        }
        if (!t.sealed) {
            return STATE;
        }
        b.changeRow(row, value);
        return 1;
    }

    public int value(int table, int block, int row) {
        Table t = tableAt(table);
        Block b = blockAt(t, block);
        if (t == null || b == null || !b.hasRow(row) || !t.sealed || !b.known[row]) {
            return Integer.MIN_VALUE;
        }
        return b.values[row];
    }

    public int about(int table, int block, int what) {
        Table t = tableAt(table);
        Block b = blockAt(t, block);
        if (t == null || b == null || !isFact(what) || !t.sealed) {
            return Integer.MIN_VALUE;
        }
        return b.fact(what);
    }

    // ---- spans

    public long sum(int table, int group, int end) {
        Table t = tableAt(table);
        if (t == null || !isGroupOrAll(group) || !isEnd(end) || !t.sealed) {
            return Long.MIN_VALUE;
        }
        return t.sumEnd(group, end);
    }

    public int count(int table, int x, int end) {
        Table t = tableAt(table);
        if (t == null || !isEnd(end)) {
            return BAD;
        }
        if (!t.sealed) {
            return STATE;
        }
        return t.countEnd(x, end);
    }

    public int join(int end) {
        if (!isEnd(end)) {
            return BAD;
        }
        Table first = tables[0];
        Table second = tables[1];
        if (!first.sealed || !second.sealed) {
            return STATE;
        }
        int pairs = knownPairs(first, second, 1, 0);
        if (end == LEAST_END) {
            return pairs;
        }
        int unread = first.rows() - first.knownRows();
        int secondUnread = second.rows() - second.knownRows();
        return pairs + unread * second.rows() + first.knownRows() * secondUnread;
    }

    public int part(int a, int b) {
        if (!isModulus(a, b)) {
            return BAD;
        }
        Table first = tables[0];
        Table second = tables[1];
        if (!first.sealed || !second.sealed) {
            return STATE;
        }
        if (!first.hasKeyed(a, b) || !second.hasKeyed(a, b)) {
            return NOT;
        }
        return knownPairs(first, second, a, b);
    }

    public int next(int table, int group) {
        Table t = tableAt(table);
        if (t == null || !isGroupOrAll(group)) {
            return BAD;
        }
        if (!t.sealed) {
            return STATE;
        }
        return t.widestBlock(group);
    }

    public int refine(int table, int group, int apart) {
        Table t = tableAt(table);
        if (t == null || !isGroupOrAll(group) || apart < 0 || apart > TOP_APART) {
            return BAD;
        }
        if (!t.sealed) {
            return STATE;
        }
        int done = 0;
        // A block that is read is never told again, so there are at most as many turns as blocks.
        while (done < BLOCKS && t.apart(group) > apart) {
            Block b = blockAt(t, t.widestBlock(group));
            if (b == null) {
                break;
            }
            readBlock(b);
            done++;
        }
        return done;
    }

    // ---- sheets

    public int sheet(int s, int form, int n) {
        Sheet it = sheetAt(s);
        if (it == null || !isForm(form) || n > ITEMS) {
            return BAD;
        }
        if (n < 0) {
            return found(SIZE);
        }
        it.renew(form, n);
        return n;
    }

    public int lose(int s) {
        Sheet it = sheetAt(s);
        if (it == null) {
            return BAD;
        }
        if (it.lost) {
            return found(NULL);
        }
        it.lost = true;
        return it.size;
    }

    public int put(int s, int form, int i, int v) {
        Sheet it = sheetAt(s);
        if (it == null || !isForm(form)) {
            return BAD;
        }
        int fault = it.faultOf(form, i);
        if (fault != 0) {
            return found(fault);
        }
        it.store(i, v);
        return 1;
    }

    public int get(int s, int form, int i) {
        Sheet it = sheetAt(s);
        if (it == null || !isForm(form)) {
            return Integer.MIN_VALUE;
        }
        int fault = it.faultOf(form, i);
        if (fault != 0) {
            found(fault);
            return Integer.MIN_VALUE;
        }
        return it.items[i];
    }

    public int copy(int s, int i, int t, int j, int n) {
        Sheet from = sheetAt(s);
        Sheet to = sheetAt(t);
        if (from == null || to == null) {
            return BAD;
        }
        if (from.lost || to.lost) {
            return found(NULL);
        }
        if (from.form != to.form) {
            return found(STORE);
        }
        if (!from.hasStretch(i, n) || !to.hasStretch(j, n)) {
            return found(INDEX);
        }
        System.arraycopy(from.items, i, to.items, j, n);
        return 1;
    }

    public int write(int table, int k, int g, int v) {
        Table t = tableAt(table);
        Sheet keys = sheetAt(k);
        Sheet groups = sheetAt(g);
        Sheet values = sheetAt(v);
        if (t == null || keys == null || groups == null || values == null) {
            return BAD;
        }
        if (!t.sealed) {
            return STATE;
        }
        if (keys.lost || groups.lost || values.lost) {
            return found(NULL);
        }
        int done = 0;
        for (int i = 0; i < BLOCKS; i++) {
            done = t.blocks[i].writeKnown(keys, groups, values, done);
        }
        return done;
    }

    public int told(int what) {
        switch (what) {
            case 0:
            case 1:
                return tables[what].rows();
            case 2:
                return reads;
            case TOLD_FINDING:
                return finding;
            case 4:
            case 5:
                return tables[what - 4].sealed ? 1 : 0;
            case 6:
            case 7:
                return tables[what - 6].keeperCount;
            case 8:
            case 9:
                return tables[what - 8].knownRows();
            default:
                return BAD;
        }
    }

    public long digest() {
        long h = 17;
        for (int what = 0; what <= LAST_TOLD; what++) {
            if (what != TOLD_FINDING) {
                h = mixed(h, told(what));
            }
        }
        for (int i = 0; i < TABLES; i++) {
            if (tables[i].sealed) {
                h = tables[i].mixedInto(h);
            }
        }
        return h;
    }

    // ---- what the calls share

    private Table tableAt(int table) {
        return table >= 0 && table < TABLES ? tables[table] : null;
    }

    private static Block blockAt(Table t, int block) {
        return t != null && block >= 0 && block < BLOCKS ? t.blocks[block] : null;
    }

    private Sheet sheetAt(int s) {
        return s >= 0 && s < SHEETS ? sheets[s] : null;
    }

    private int found(int number) {
        finding = number;
        return -10 - number;
    }

    private int readBlock(Block b) {
        int unread = b.size - b.knownCount;
        if (unread > 0) {
            b.knowAll();
            reads++;
        }
        return unread;
    }

    /** Pairs of known rows with the same key that is b modulo a. */
    private int knownPairs(Table first, Table second, int a, int b) {
        Arrays.fill(keyCounts, 0);
        for (int i = 0; i < BLOCKS; i++) {
            first.blocks[i].addKnownKeys(keyCounts);
        }
        int pairs = 0;
        for (int i = 0; i < BLOCKS; i++) {
            pairs += second.blocks[i].pairsWith(keyCounts, a, b);
        }
        return pairs;
    }

    private static long mixed(long h, long item) {
        return 31 * h + item;
    }

    private static boolean isValue(int value) {
        return value >= -TOP_VALUE && value <= TOP_VALUE;
    }

    private static boolean isRow(int key, int group, int value) {
        return key >= 0 && key < KEYS && group >= 0 && group < GROUPS && isValue(value);
    }

    private static boolean isKeeper(int kind, int a, int b) {
        switch (kind) {
            case EVERY:
            case STRATA:
                return a >= 1 && a <= ROWS && b == 0;
            case KEYED:
                return isModulus(a, b);
            case HEAVY:
                return a >= 1 && a <= TOP_VALUE && b == 0;
            default:
                return false;
        }
    }

    private static boolean isModulus(int a, int b) {
        return a >= 1 && a <= KEYS && b >= 0 && b < a;
    }

    private static boolean isCongruent(int key, int a, int b) {
        return a > 0 && key % a == b;
    }

    private static boolean isFact(int what) {
        boolean ofGroup = what >= FIRST_GROUP_FACT && what < FIRST_GROUP_FACT + GROUPS;
        return what >= 0 && what <= LAST_PLAIN_FACT || ofGroup;
    }

    private static boolean isGroupOrAll(int group) {
        return group >= ALL_GROUPS && group < GROUPS;
    }

    private static boolean isEnd(int end) {
        return end == LEAST_END || end == GREATEST_END;
    }

    private static boolean isForm(int form) {
        return form >= BYTES && form <= INTS;
    }

    /** Its blocks and keepers are made once; size and keeperCount tell how much of them counts. */
    private static final class Table {
        final Block[] blocks = new Block[BLOCKS];
        final Keeper[] keepers = new Keeper[KEEPERS];
        int keeperCount;
        boolean sealed;

        Table() {
            for (int i = 0; i < BLOCKS; i++) {
                blocks[i] = new Block();
            }
            for (int i = 0; i < KEEPERS; i++) {
                keepers[i] = new Keeper();
            }
        }

        void addKeeper(int kind, int a, int b) {
            if (keeperCount >= 0 && keeperCount < KEEPERS) {
                keepers[keeperCount].become(kind, a, b);
                keeperCount++;
            }
        }

        void close() {
            int amount = topHiddenAmount();
            for (int i = 0; i < BLOCKS; i++) {
                keepRows(blocks[i]);
                blocks[i].measure(amount);
            }
            sealed = true;
        }

        void empty() {
            for (int i = 0; i < BLOCKS; i++) {
                blocks[i].empty();
            }
            keeperCount = 0;
            sealed = false;
        }

        int rows() {
            int rows = 0;
            for (int i = 0; i < BLOCKS; i++) {
                rows += blocks[i].size;
            }
            return rows;
        }

        /** None is known while the table is open, since only sealing and what follows tells rows. */
        int knownRows() {
            int rows = 0;
            for (int i = 0; i < BLOCKS; i++) {
                rows += blocks[i].knownCount;
            }
            return rows;
        }

        boolean hasKeyed(int a, int b) {
            for (int i = 0; i < keeperCount; i++) {
                Keeper k = keepers[i];
                if (k.kind == KEYED && k.a == a && k.b == b) {
                    return true;
                }
            }
            return false;
        }

        long sumEnd(int group, int end) {
            long sum = 0;
            for (int i = 0; i < BLOCKS; i++) {
                sum += blocks[i].sumEnd(group, end);
            }
            return sum;
        }

        long apart(int group) {
            return sumEnd(group, GREATEST_END) - sumEnd(group, LEAST_END);
        }

        int countEnd(int x, int end) {
            int rows = 0;
            for (int i = 0; i < BLOCKS; i++) {
                rows += blocks[i].countEnd(x, end);
            }
            return rows;
        }

        int widestBlock(int group) {
            int widest = NONE;
            long most = 0;
            for (int i = 0; i < BLOCKS; i++) {
                long apart = blocks[i].apart(group);
                if (apart > most) {
                    most = apart;
                    widest = i;
                }
            }
            return widest;
        }

        long mixedInto(long start) {
            long h = start;
            for (int i = 0; i < BLOCKS; i++) {
                h = blocks[i].mixedInto(h);
            }
            h = mixed(h, sumEnd(ALL_GROUPS, LEAST_END));
            return mixed(h, sumEnd(ALL_GROUPS, GREATEST_END));
        }

        /** The greatest amount that a row can have which no heavy keeper keeps. */
        private int topHiddenAmount() {
            int amount = TOP_VALUE;
            for (int i = 0; i < keeperCount; i++) {
                if (keepers[i].kind == HEAVY) {
                    amount = Math.min(amount, keepers[i].a - 1);
                }
            }
            return amount;
        }

        private void keepRows(Block b) {
            for (int row = 0; row < b.size; row++) {
                if (isKept(b, row)) {
                    b.know(row);
                }
            }
        }

        private boolean isKept(Block b, int row) {
            for (int i = 0; i < keeperCount; i++) {
                if (keepers[i].keeps(b, row)) {
                    return true;
                }
            }
            return false;
        }
    }

    private static final class Keeper {
        int kind;
        int a;
        int b;

        Keeper() {
        }

        void become(int newKind, int newA, int newB) {
            kind = newKind;
            a = newA;
            b = newB;
        }

        boolean keeps(Block block, int row) {
            if (!block.hasRow(row)) {
                return false;
            }
            switch (kind) {
                case EVERY:
                    return isCongruent(row, a, 0);
                case STRATA:
                    return block.earlierOfItsGroup(row) < a;
                case KEYED:
                    return isCongruent(block.keys[row], a, b);
                case HEAVY:
                    return Math.abs(block.values[row]) >= a;
                default:
                    return false;
            }
        }
    }

    private static final class Block {
        final int[] keys = new int[ROWS];
        final int[] groups = new int[ROWS];
        final int[] values = new int[ROWS];
        final boolean[] known = new boolean[ROWS];
        final int[] groupSizes = new int[GROUPS];
        int size;
        int knownCount;
        int least;
        int greatest;
        int low;
        int high;
        /** Whether a row that was kept had that value: what later changes make of it is no matter. */
        boolean leastKept;
        boolean greatestKept;
        /** A row that was changed unseen may have been the one with the least or greatest value. */
        boolean changedUnseen;

        Block() {
        }

        boolean hasRow(int row) {
            return row >= 0 && row < size;
        }

        void addRow(int key, int group, int value) {
            if (size >= 0 && size < ROWS && group >= 0 && group < GROUPS) {
                keys[size] = key;
                groups[size] = group;
                values[size] = value;
                known[size] = false;
                groupSizes[group]++;
                size++;
            }
        }

        void empty() {
            size = 0;
            knownCount = 0;
            Arrays.fill(groupSizes, 0);
        }

        int earlierOfItsGroup(int row) {
            int earlier = 0;
            for (int i = 0; i < row && row < size; i++) {
                if (groups[i] == groups[row]) {
                    earlier++;
                }
            }
            return earlier;
        }

        void know(int row) {
            if (hasRow(row) && !known[row]) {
                known[row] = true;
                knownCount++;
            }
        }

        void knowAll() {
            for (int row = 0; row < size; row++) {
                know(row);
            }
        }

        void changeRow(int row, int value) {
            if (hasRow(row)) {
                changedUnseen = changedUnseen || !known[row];
                know(row);
                values[row] = value;
            }
        }

        /** What sealing tells, once the kept rows are known. */
        void measure(int topHiddenAmount) {
            least = size > 0 ? values[0] : 0;
            greatest = least;
            for (int row = 1; row < size; row++) {
                least = Math.min(least, values[row]);
                greatest = Math.max(greatest, values[row]);
            }
            low = Math.max(least, -topHiddenAmount);
            high = Math.min(greatest, topHiddenAmount);
            leastKept = isKnownValue(least);
            greatestKept = isKnownValue(greatest);
            changedUnseen = false;
        }

        int fact(int what) {
            switch (what) {
                case 0:
                    return size;
                case 1:
                    return least;
                case 2:
                    return greatest;
                case 3:
                    return size - knownCount;
                case 4:
                    return isHalf() ? low : 0;
                case 5:
                    return isHalf() ? high : 0;
                case 6:
                    return owesLeast() ? 1 : 0;
                case 7:
                    return owesGreatest() ? 1 : 0;
                default:
                    return groupSize(what - FIRST_GROUP_FACT);
            }
        }

        long sumEnd(int group, int end) {
            int sum = 0;
            int hidden = 0;
            for (int row = 0; row < size; row++) {
                if (group == ALL_GROUPS || groups[row] == group) {
                    if (known[row]) {
                        sum += values[row];
                    } else {
                        hidden++;
                    }
                }
            }
            return hidden == 0 ? sum : sum + hiddenSumEnd(hidden, end);
        }

        long apart(int group) {
            return sumEnd(group, GREATEST_END) - sumEnd(group, LEAST_END);
        }

        int countEnd(int x, int end) {
            int rows = 0;
            for (int row = 0; row < size; row++) {
                if (known[row] && values[row] >= x) {
                    rows++;
                }
            }
            return isHalf() ? rows + hiddenCountEnd(x, end) : rows;
        }

        void addKnownKeys(int[] keyCounts) {
            for (int row = 0; row < size; row++) {
                int key = keys[row];
                if (known[row] && key >= 0 && key < keyCounts.length) {
                    keyCounts[key]++;
                }
            }
        }

        int pairsWith(int[] keyCounts, int a, int b) {
            int pairs = 0;
            for (int row = 0; row < size; row++) {
                int key = keys[row];
                boolean counts = known[row] && isCongruent(key, a, b);
                if (counts && key >= 0 && key < keyCounts.length) {
                    pairs += keyCounts[key];
                }
            }
            return pairs;
        }

        /** Known rows come to the sheets from item start on; the answer is the item behind them. */
        int writeKnown(Sheet toKeys, Sheet toGroups, Sheet toValues, int start) {
            int room = Math.min(toKeys.size, Math.min(toGroups.size, toValues.size));
            int item = start;
            for (int row = 0; row < size && item < room; row++) {
                if (known[row]) {
                    // One sheet may be all three: the order tells which number stays.
                    toKeys.store(item, keys[row]);
                    toGroups.store(item, groups[row]);
                    toValues.store(item, values[row]);
                    item++;
                }
            }
            return item;
        }

        long mixedInto(long start) {
            long h = start;
            for (int what = 0; what < FIRST_GROUP_FACT + GROUPS; what++) {
                if (isFact(what)) {
                    h = mixed(h, fact(what));
                }
            }
            for (int row = 0; row < size; row++) {
                if (known[row]) {
                    h = mixed(mixed(h, row), values[row]);
                }
            }
            return h;
        }

        private boolean isHalf() {
            return knownCount < size;
        }

        private boolean owesLeast() {
            return isHalf() && !leastKept && !changedUnseen && low == least;
        }

        private boolean owesGreatest() {
            return isHalf() && !greatestKept && !changedUnseen && high == greatest;
        }

        private boolean isKnownValue(int value) {
            for (int row = 0; row < size; row++) {
                if (known[row] && values[row] == value) {
                    return true;
                }
            }
            return false;
        }

        private int groupSize(int group) {
            return group >= 0 && group < GROUPS ? groupSizes[group] : 0;
        }

        /** An owed value lies surely among the hidden rows summed only if these are all there are. */
        private int hiddenSumEnd(int hidden, int end) {
            boolean all = hidden == size - knownCount;
            if (end == LEAST_END) {
                return hidden * low + (all && owesGreatest() ? high - low : 0);
            }
            return hidden * high - (all && owesLeast() ? high - low : 0);
        }

        private int hiddenCountEnd(int x, int end) {
            int hidden = size - knownCount;
            if (low >= x) {
                return hidden;
            }
            if (high < x) {
                return 0;
            }
            if (end == LEAST_END) {
                return owesGreatest() ? 1 : 0;
            }
            return owesLeast() ? hidden - 1 : hidden;
        }
    }

    /** One row of ints serves all forms: an item is cut to its form as it is stored. */
    private static final class Sheet {
        final int[] items = new int[ITEMS];
        int form;
        int size;
        boolean lost = true;

        Sheet() {
        }

        void renew(int newForm, int n) {
            Arrays.fill(items, 0);
            form = newForm;
            size = n;
            lost = false;
        }

        /** The number of the finding that an item, treated as of a form, comes to; 0 if none. */
        int faultOf(int asForm, int i) {
            if (lost) {
                return NULL;
            }
            if (form != asForm) {
                return CAST;
            }
            return i < 0 || i >= size ? INDEX : 0;
        }

        /** Compared by subtraction, since the sum of two large numbers would wrap. */
        boolean hasStretch(int from, int n) {
            return from >= 0 && n >= 0 && from <= size && n <= size - from;
        }

        void store(int i, int v) {
            if (i >= 0 && i < size) {
                items[i] = cut(v);
            }
        }

        private int cut(int v) {
            switch (form) {
                case BYTES:
                    return (byte) v;
                case SHORTS:
                    return (short) v;
                default:
                    return v;
            }
        }
    }
}
