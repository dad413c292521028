import java.util.function.Supplier;

/** The document's Terms, part 3, and promises 11 to 16: a test for each sentence that names a boundary. */
public final class SpanEdgesTest {
    private static final Due DUE = new Due();
    private static final Refusals NO = new Refusals(DUE);
    private static final int TOP = Stores.TOP, BOTTOM = Stores.BOTTOM;
    private static final int BAD = SpanStore.BAD, STATE = SpanStore.STATE, NOT = SpanStore.NOT, NONE = SpanStore.NONE;
    private static final int KNOWN = 1, HIDDEN = 0;
    private static final Supplier<SpanStore> MIXED = Stores::mixed, OPEN = Stores::open, SEALED = Stores::sealed;
    private static final int[][] NO_KEEPERS = {};

    public static void main(String[] args) {
        ends();
        overAllBlocks();
        sumOfKnown();
        sumOfHidden();
        sumOfGroup();
        sumGreatestOwed();
        sumLeastOwed();
        sumOfNone();
        sumRefusals();
        countOfKnown();
        countAll();
        countNone();
        countElse();
        countRefusals();
        joinOfKnown();
        joinFirstHidden();
        joinSecondHidden();
        joinRefusals();
        partPairs();
        partRefusals();
        DUE.end();
    }

    private static int[] row(int known, int group, int value) {
        return new int[] {known, group, value};
    }

    private static void sum(String when, SpanStore x, int group, long least, long greatest) {
        DUE.is(when + ": sum(0, " + group + ", 0)", x.sum(0, group, 0), least);
        DUE.is(when + ": sum(0, " + group + ", 1)", x.sum(0, group, 1), greatest);
    }

    private static void count(String when, SpanStore x, int from, int least, int greatest) {
        DUE.is(when + ": count(0, " + from + ", 0)", x.count(0, from, 0), least);
        DUE.is(when + ": count(0, " + from + ", 1)", x.count(0, from, 1), greatest);
    }

    private static void join(String when, SpanStore x, int least, int greatest) {
        DUE.is(when + ": join(0)", x.join(0), least);
        DUE.is(when + ": join(1)", x.join(1), greatest);
    }

    private static void ends() {
        DUE.sentence("Terms", "SPANS, from a least end (0) to a greatest end (1)");
        for (int end : new int[] {-1, 2, TOP, BOTTOM}) {
            NO.refused("sum, end " + end, SEALED, x -> x.sum(0, -1, end), Due.LEAST_LONG);
            NO.refused("count, end " + end, SEALED, x -> x.count(0, 0, end), BAD);
            NO.refused("join, end " + end, SEALED, x -> x.join(end), BAD);
        }
        SpanStore x = Stores.block(NO_KEEPERS, 1, 2, 2);
        sum("apart", x, -1, 1 + 1 + 2, 2 + 2 + 1);
    }

    private static void overAllBlocks() {
        DUE.sentence("Terms", "over all BLOCKS together");
        SpanStore x = new SpanStore();
        for (int block = 0; block < 8; block++) {
            Due.values(x, 0, block, 1, 2, 4);
            Due.values(x, 1, block, 1);
        }
        x.seal(0);
        x.seal(1);
        sum("eight blocks", x, -1, 8 * (1 + 1 + 4), 8 * (4 + 4 + 1));
        count("eight blocks", x, 2, 8, 8 * 2);
        join("eight blocks", x, 0, 24 * 8);
        SpanStore y = new SpanStore();
        y.seal(0);
        y.seal(1);
        sum("no rows", y, -1, 0, 0);
        count("no rows", y, BOTTOM, 0, 0);
        join("no rows", y, 0, 0);
        SpanStore z = new SpanStore();
        for (int i = 0; i < 96; i++) {
            z.row(0, i / 12, 1, 3, i % 12 == 0 ? 1000 : -1000);
            z.row(1, i / 12, 1, 3, i % 12 == 0 ? -1000 : 1000);
        }
        z.seal(0);
        z.seal(1);
        sum("as many as there can be", z, 3, -80000, 80000);
        count("as many as there can be", z, 0, 8, 88);
        join("as many as there can be", z, 0, 9216);
        for (int block = 0; block < 8; block++) {
            z.read(0, block);
            z.read(1, block);
        }
        sum("the farthest from 0", z, 3, -80000, -80000);
        count("all read", z, -1000, 96, 96);
        join("all pairs", z, 9216, 9216);
    }

    private static void sumOfKnown() {
        DUE.sentence("Terms", "THE SUM of all VALUES, or of those of a GROUP: KNOWN ones");
        SpanStore x = Stores.rows(row(KNOWN, 0, -1000), row(KNOWN, 3, 1000), row(KNOWN, 3, 1));
        sum("all", x, -1, 1, 1);
        sum("group 0", x, 0, -1000, -1000);
        sum("group 1, of which there is none", x, 1, 0, 0);
        sum("group 3", x, 3, 1001, 1001);
        x.change(0, 0, 1, -5);
        sum("changed", x, 3, -4, -4);
        sum("changed", x, -1, -1004, -1004);
    }

    private static void sumOfHidden() {
        DUE.sentence("Terms", "n times LOW, to n times HIGH");
        int[][] bothKnown = {row(KNOWN, 0, -10), row(KNOWN, 1, 20), row(HIDDEN, 0, 3), row(HIDDEN, 1, 4)};
        SpanStore x = Stores.rows(bothKnown);
        sum("two", x, -1, 10 - 20, 10 + 40);
        x.change(0, 0, 0, 100);
        sum("two, a known one changed", x, -1, 120 - 20, 120 + 40);
        x.change(0, 0, 2, 1000);
        sum("one", x, -1, 1120 - 10, 1120 + 20);
        x.change(0, 0, 3, -1000);
        sum("none", x, -1, 120, 120);
        int[][] heavy = {{3, 50, 0}};
        sum("within HEAVY", Stores.block(heavy, -60, 0, 10, 60), -1, -98, 98);
    }

    private static void sumOfGroup() {
        DUE.sentence("Terms", "(of that GROUP: as many as it has of it, less the KNOWN ones of it)");
        SpanStore x = Stores.rows(row(HIDDEN, 1, -10), row(KNOWN, 1, 7), row(HIDDEN, 1, 20), row(HIDDEN, 2, 3),
                row(KNOWN, 3, 4));
        sum("group 1 has two of three", x, 1, 7 - 20, 7 + 40);
        sum("group 2 has one of three", x, 2, -10, 20);
        sum("group 3 has none of them", x, 3, 4, 4);
        sum("group 0 has no row", x, 0, 0, 0);
        x.change(0, 0, 0, 0);
        sum("one of them is changed", x, 1, 7 - 10, 7 + 20);
        x.change(0, 0, 3, 5);
        sum("the one of group 2 is changed", x, 2, 5, 5);
        sum("now group 1 has all, but none is owed", x, 1, 7 - 10, 7 + 20);
        for (int group : new int[] {-2, 4, TOP, BOTTOM}) {
            NO.refused("sum of group " + group, SEALED, y -> y.sum(0, group, 0), Due.LEAST_LONG);
            NO.refused("next of group " + group, SEALED, y -> y.next(0, group), BAD);
            NO.refused("refine of group " + group, SEALED, y -> y.refine(0, group, 0), BAD);
        }
    }

    private static void sumGreatestOwed() {
        DUE.sentence("Terms", "but if GREATEST is OWED, and n is u, the least end is higher by HIGH less LOW");
        SpanStore x = Stores.rows(row(KNOWN, 0, -10), row(HIDDEN, 1, 20), row(HIDDEN, 1, 3));
        sum("of all", x, -1, -10 - 20 + 30, -10 + 40);
        sum("of a group that has all", x, 1, -20 + 30, 40);
        SpanStore y = Stores.rows(row(KNOWN, 0, -10), row(HIDDEN, 1, 20), row(HIDDEN, 2, 3));
        sum("of all", y, -1, -10 - 20 + 30, -10 + 40);
        sum("of a group that has not all", y, 1, -10, 20);
        sum("of the other", y, 2, -10, 20);
        sum("one row that has it", Stores.rows(row(KNOWN, 0, -10), row(HIDDEN, 0, 20)), -1, 10, 10);
        y.change(0, 0, 2, 3);
        sum("no longer owed", y, 1, -10, 20);
    }

    private static void sumLeastOwed() {
        DUE.sentence("Terms", "if LEAST is OWED, and n is u, the greatest end is lower by as much");
        SpanStore x = Stores.rows(row(KNOWN, 0, 20), row(HIDDEN, 1, -10), row(HIDDEN, 1, 3));
        sum("of all", x, -1, 20 - 20, 20 + 40 - 30);
        sum("of a group that has all", x, 1, -20, 40 - 30);
        SpanStore y = Stores.rows(row(KNOWN, 0, 20), row(HIDDEN, 1, -10), row(HIDDEN, 2, 3));
        sum("of all", y, -1, 20 - 20, 20 + 40 - 30);
        sum("of a group that has not all", y, 1, -10, 20);
        sum("of the other", y, 2, -10, 20);
        sum("one row that has it", Stores.rows(row(KNOWN, 0, 20), row(HIDDEN, 0, -10)), -1, 10, 10);
        sum("both owed", Stores.block(NO_KEEPERS, -10, 3, 20), -1, -10 - 10 + 20, 20 + 20 - 10);
        sum("both owed, two rows", Stores.block(NO_KEEPERS, -10, 20), -1, 10, 10);
        sum("both owed, one row", Stores.block(NO_KEEPERS, 7), -1, 7, 7);
        sum("both owed, all alike", Stores.block(NO_KEEPERS, 7, 7, 7), -1, 21, 21);
        SpanStore z = Stores.block(new int[][] {{3, 50, 0}}, -49, 60, 0);
        sum("LOW is LEAST, HIGH is not GREATEST", z, -1, 60 - 98, 60 + 98 - 98);
    }

    private static void sumOfNone() {
        DUE.sentence("Terms", "(Where n is 0: nothing.)");
        SpanStore x = Stores.rows(row(KNOWN, 0, 5), row(HIDDEN, 1, -10), row(HIDDEN, 1, 20), row(KNOWN, 2, 6));
        sum("a group that is all known", x, 0, 5, 5);
        sum("a group without rows", x, 3, 0, 0);
        SpanStore y = Stores.rows(row(KNOWN, 0, 5), row(HIDDEN, 1, 20));
        sum("all known, one other is not", y, 0, 5, 5);
        sum("a group without rows, one other is not known", y, 2, 0, 0);
        y.read(0, 0);
        sum("read", y, 1, 20, 20);
        DUE.is("next has no block for it", x.next(0, 0), NONE);
        DUE.is("refine reads none for it", x.refine(0, 0, 0), 0);
        DUE.is("and leaves it half", x.about(0, 0, 3), 2);
    }

    private static void sumRefusals() {
        DUE.sentence("Promise 11: sum", "An end (0, 1) of THE SUM of a TABLE, of a GROUP (-1: all). BAD: the least "
                + "long; so is STATE (OPEN).");
        NO.refused("group -2", SEALED, x -> x.sum(0, -2, 0), Due.LEAST_LONG);
        NO.refused("group 4", SEALED, x -> x.sum(0, 4, 1), Due.LEAST_LONG);
        NO.refused("end 2", SEALED, x -> x.sum(0, 0, 2), Due.LEAST_LONG);
        NO.refused("table 2", SEALED, x -> x.sum(2, 0, 0), Due.LEAST_LONG);
        NO.refused("open", MIXED, x -> x.sum(1, -1, 0), Due.LEAST_LONG);
        NO.refused("open, no rows", SpanStore::new, x -> x.sum(0, 0, 1), Due.LEAST_LONG);
        NO.refused("open, and no such group", MIXED, x -> x.sum(1, 4, 0), Due.LEAST_LONG);
        SpanStore x = Stores.rows(row(KNOWN, 0, 1), row(KNOWN, 1, 10), row(KNOWN, 2, 100), row(KNOWN, 3, 1000));
        int[] due = {1111, 1, 10, 100, 1000};
        for (int group = -1; group <= 3; group++) {
            sum("each group", x, group, due[group + 1], due[group + 1]);
        }
    }

    private static void countOfKnown() {
        DUE.sentence("Terms", "THE COUNT of VALUES that are x or more: KNOWN ones");
        SpanStore x = Stores.rows(row(KNOWN, 0, -1000), row(KNOWN, 0, 5), row(KNOWN, 0, 5), row(KNOWN, 0, 1000));
        int[][] due = {
            {BOTTOM, 4}, {-1001, 4}, {-1000, 4}, {-999, 3}, {4, 3}, {5, 3}, {6, 1}, {1000, 1}, {1001, 0}, {TOP, 0},
        };
        for (int[] d : due) {
            count("all known", x, d[0], d[1], d[1]);
        }
        x.change(0, 0, 1, 6);
        count("changed", x, 6, 2, 2);
    }

    private static void countAll() {
        DUE.sentence("Terms", "all of them, if LOW is x or more");
        SpanStore x = Stores.rows(row(KNOWN, 0, -10), row(HIDDEN, 0, 0), row(HIDDEN, 0, 1), row(KNOWN, 0, 20));
        count("x below LOW", x, -11, 4, 4);
        count("x that is LOW", x, -10, 4, 4);
        count("x above LOW", x, -9, 1, 3);
        count("the least int", x, BOTTOM, 4, 4);
        x.change(0, 0, 0, -1000);
        count("a known one is below", x, -10, 3, 3);
        SpanStore y = Stores.block(new int[][] {{3, 50, 0}}, -60, 0, 0, 60);
        count("x that is LOW within HEAVY", y, -49, 3, 3);
        count("x above it", y, -48, 1, 3);
        count("all alike", Stores.block(NO_KEEPERS, 7, 7), 7, 2, 2);
    }

    private static void countNone() {
        DUE.sentence("Terms", "none, if HIGH is below x");
        SpanStore x = Stores.rows(row(KNOWN, 0, -10), row(HIDDEN, 0, 0), row(HIDDEN, 0, 1), row(KNOWN, 0, 20));
        count("x above HIGH", x, 21, 0, 0);
        count("x that is HIGH", x, 20, 1, 3);
        count("the greatest int", x, TOP, 0, 0);
        x.change(0, 0, 0, 1000);
        count("a known one is above", x, 21, 1, 1);
        SpanStore y = Stores.block(new int[][] {{3, 50, 0}}, -60, 0, 0, 60);
        count("x above HIGH within HEAVY", y, 50, 1, 1);
        count("x that is HIGH within HEAVY", y, 49, 1, 3);
        count("all alike", Stores.block(NO_KEEPERS, 7, 7), 8, 0, 0);
    }

    private static void countElse() {
        DUE.sentence("Terms", "else from 1, if GREATEST is OWED (0 if not), to u, less 1, if LEAST is OWED");
        SpanStore both = Stores.rows(row(HIDDEN, 0, -10), row(KNOWN, 0, 0), row(HIDDEN, 0, 20), row(HIDDEN, 0, 1));
        count("both owed", both, 1, 1, 2);
        count("both owed, x just above LOW", both, -9, 1 + 1, 1 + 2);
        count("both owed, x that is HIGH", both, 20, 1, 2);
        SpanStore least = Stores.rows(row(HIDDEN, 0, -10), row(KNOWN, 0, 20), row(HIDDEN, 0, 1));
        count("LEAST owed", least, 1, 1, 1 + 1);
        SpanStore greatest = Stores.rows(row(KNOWN, 0, -10), row(HIDDEN, 0, 20), row(HIDDEN, 0, 1));
        count("GREATEST owed", greatest, 1, 1, 2);
        count("GREATEST owed by one row", Stores.rows(row(KNOWN, 0, -10), row(HIDDEN, 0, 20)), 0, 1, 1);
        count("LEAST owed by one row", Stores.rows(row(KNOWN, 0, 20), row(HIDDEN, 0, -10)), 0, 1, 1);
        SpanStore none = Stores.rows(row(KNOWN, 0, -10), row(HIDDEN, 0, 0), row(HIDDEN, 0, 1), row(KNOWN, 0, 20));
        count("neither owed", none, 0, 1, 3);
        both.change(0, 0, 3, 1);
        count("neither owed behind a change", both, 1, 1, 3);
    }

    private static void countRefusals() {
        DUE.sentence("Promise 12: count", "An end of THE COUNT of VALUES that are x or more. BAD; STATE.");
        NO.refused("table 2", SEALED, x -> x.count(2, 0, 0), BAD);
        NO.refused("end -1", SEALED, x -> x.count(0, 0, -1), BAD);
        NO.refused("open", MIXED, x -> x.count(1, 0, 0), STATE);
        NO.refused("open, no rows", SpanStore::new, x -> x.count(0, 0, 1), STATE);
        NO.refused("open, and no such end", MIXED, x -> x.count(1, 0, 2), BAD);
    }

    /** Rows of key 4 and 5 in both tables, of which the keepers keep those of EVERY a. */
    private static SpanStore joined(int everyFirst, int everySecond) {
        SpanStore x = new SpanStore();
        Due.rows(x, 0, 1, new int[][] {{4, 0, 0}, {5, 0, 0}, {0, 0, 0}});
        Due.rows(x, 0, 6, new int[][] {{4, 1, 1}, {99, 0, 0}});
        Due.rows(x, 1, 7, new int[][] {{4, 2, 2}, {4, 0, 0}, {99, 0, 0}, {1, 0, 0}});
        x.keeper(0, 0, everyFirst, 0);
        x.keeper(1, 0, everySecond, 0);
        x.seal(0);
        x.seal(1);
        return x;
    }

    private static void joinOfKnown() {
        DUE.sentence("Terms", "how many pairs of a ROW of TABLE 0 and one of TABLE 1 have the same KEY: KNOWN ones");
        join("all known", joined(1, 1), 2 + 2 + 1, 5);
        SpanStore x = new SpanStore();
        for (int key : new int[] {0, 99, 1, 98, 0}) {
            x.row(0, 0, key, 0, key);
            x.row(1, 5, 99 - key, 3, -key);
        }
        x.keeper(0, 0, 1, 0);
        x.keeper(1, 0, 1, 0);
        x.seal(0);
        x.seal(1);
        join("the ends of keys", x, 2 + 2 + 1 + 1, 6);
        x.change(0, 0, 0, 1000);
        join("a changed VALUE is no matter", x, 6, 6);
        join("asked again", x, 6, 6);
    }

    private static void joinFirstHidden() {
        DUE.sentence("Terms", "(ROWS not KNOWN of the first times all ROWS of the second)");
        SpanStore x = joined(12, 1);
        join("three of the first not known", x, 4, 4 + 3 * 4);
        x.change(0, 1, 1, 0);
        join("one of them changed", x, 4, 4 + 2 * 4);
        x.read(0, 1);
        join("one block read", x, 4, 4 + 1 * 4);
        x.read(0, 6);
        join("both read", x, 5, 5);
        SpanStore y = new SpanStore();
        Due.values(y, 0, 0, 1, 2);
        y.seal(0);
        y.seal(1);
        join("the second has no rows", y, 0, 0);
    }

    private static void joinSecondHidden() {
        DUE.sentence("Terms", "(KNOWN ROWS of the first times ROWS not KNOWN of the second)");
        SpanStore x = joined(1, 12);
        join("three of the second not known", x, 2, 2 + 5 * 3);
        x.change(1, 7, 3, 0);
        join("one of them changed", x, 2, 2 + 5 * 2);
        x.read(1, 7);
        join("read", x, 5, 5);
        join("both half", joined(12, 12), 2, 2 + 3 * 4 + 2 * 3);
        SpanStore y = new SpanStore();
        Due.values(y, 1, 0, 1, 2);
        y.seal(0);
        y.seal(1);
        join("the first has no rows", y, 0, 0);
    }

    private static void joinRefusals() {
        DUE.sentence("Promise 13: join", "An end of THE JOIN. BAD; STATE: one is OPEN.");
        NO.refused("end 2", SEALED, x -> x.join(2), BAD);
        NO.refused("end -1", SEALED, x -> x.join(-1), BAD);
        NO.refused("the second is open", MIXED, x -> x.join(0), STATE);
        NO.refused("both are open", OPEN, x -> x.join(1), STATE);
        NO.refused("the first is open", SpanEdgesTest::onlySecondSealed, x -> x.join(1), STATE);
        NO.refused("open, and no such end", MIXED, x -> x.join(2), BAD);
    }

    private static SpanStore onlySecondSealed() {
        SpanStore x = Stores.open();
        x.seal(1);
        return x;
    }

    private static void partPairs() {
        DUE.sentence("Terms", "pairs of KNOWN ROWS with the same KEY that is b modulo a: exact, if both TABLES have "
                + "KEYED a, b");
        SpanStore x = new SpanStore();
        for (int key : new int[] {1, 4, 2, 4, 99, 0}) {
            x.row(0, key % 8, key, 0, 0);
            x.row(1, 7 - key % 8, key, 0, 0);
        }
        int[][] keyed = {{3, 1}, {100, 99}, {1, 0}, {3, 0}};
        for (int[] k : keyed) {
            x.keeper(0, 2, k[0], k[1]);
            x.keeper(1, 2, k[0], k[1]);
        }
        x.seal(0);
        x.seal(1);
        DUE.is("keys 1 and 4", x.part(3, 1), 1 + 4);
        DUE.is("key 99", x.part(100, 99), 1);
        DUE.is("keys 0 and 99", x.part(3, 0), 2);
        DUE.is("all keys", x.part(1, 0), x.join(0));
        SpanStore y = new SpanStore();
        Due.rows(y, 0, 0, new int[][] {{1, 0, 0}, {4, 0, 0}, {2, 0, 0}});
        Due.rows(y, 1, 0, new int[][] {{4, 0, 0}, {2, 0, 0}, {4, 0, 0}});
        y.keeper(0, 2, 3, 1);
        y.keeper(1, 2, 3, 1);
        y.seal(0);
        y.seal(1);
        DUE.is("exact ahead of a read", y.part(3, 1), 2);
        y.read(0, 0);
        y.read(1, 0);
        DUE.is("the same behind it", y.part(3, 1), 2);
        DUE.is("all pairs", y.join(0), 3);
    }

    private static void partRefusals() {
        DUE.sentence("Promise 14: part", "BAD: a 1 to 100, b 0 to a - 1; STATE; NOT: one of the TABLES has no KEEPER "
                + "KEYED a, b.");
        int[][] bad = {
            {0, 0}, {101, 0}, {-1, 0}, {TOP, 0}, {BOTTOM, 0}, {5, 5}, {5, -1}, {1, 1}, {100, 100}, {5, TOP}, {5, BOTTOM},
        };
        for (int[] b : bad) {
            NO.refused("part(" + b[0] + ", " + b[1] + ")", SEALED, x -> x.part(b[0], b[1]), BAD);
            NO.refused("open, part(" + b[0] + ", " + b[1] + ")", MIXED, x -> x.part(b[0], b[1]), BAD);
        }
        NO.refused("the second is open", MIXED, x -> x.part(5, 2), STATE);
        NO.refused("the first is open", SpanEdgesTest::onlySecondSealed, x -> x.part(5, 2), STATE);
        NO.refused("both are open", OPEN, x -> x.part(5, 2), STATE);
        NO.refused("one is open, and none has it", MIXED, x -> x.part(5, 3), STATE);
        for (int[] k : new int[][] {{5, 3}, {10, 2}, {1, 0}, {100, 99}, {3, 0}, {12, 0}, {100, 0}}) {
            NO.refused("none has " + k[0] + ", " + k[1], SEALED, x -> x.part(k[0], k[1]), NOT);
        }
        DUE.is("both have it", Stores.sealed().part(5, 2), 3);
        for (int has = 0; has < 2; has++) {
            SpanStore x = new SpanStore();
            x.keeper(has, 2, 7, 6);
            x.seal(0);
            x.seal(1);
            DUE.is("only table " + has + " has it", x.part(7, 6), NOT);
        }
        SpanStore y = new SpanStore();
        y.keeper(0, 0, 3, 0);
        y.keeper(1, 1, 3, 0);
        y.seal(0);
        y.seal(1);
        DUE.is("EVERY and STRATA of the same a are none", y.part(3, 0), NOT);
        keyedAmongFour();
    }

    private static void keyedAmongFour() {
        SpanStore x = new SpanStore();
        int[][] four = {{0, 4, 0}, {2, 4, 1}, {3, 4, 0}, {2, 4, 2}};
        for (int t = 0; t < 2; t++) {
            for (int[] k : four) {
                x.keeper(t, k[0], k[1], k[2]);
            }
            x.row(t, 0, 2, 0, 0);
            x.seal(t);
        }
        DUE.is("the last of four", x.part(4, 2), 1);
        DUE.is("one between", x.part(4, 1), 0);
        DUE.is("none of four, EVERY and HEAVY of the same a", x.part(4, 0), NOT);
        x.clear(0);
        x.keeper(0, 0, 4, 0);
        x.seal(0);
        DUE.is("one that the first had till it was cleared", x.part(4, 1), NOT);
    }
}
