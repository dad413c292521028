/** The document's Terms, WHAT CAN BE of a HALF BLOCK: a test for each of its boundaries. */
public final class OwedEdgesTest {
    private static final Due DUE = new Due();
    private static final int KNOWN = 1, HIDDEN = 0;
    private static final int[][] NO_KEEPERS = {};

    public static void main(String[] args) {
        lowAndHigh();
        amountBelow();
        leastOfTheirs();
        owedIfNoneKnownHadIt();
        asSealedAheadOfChange();
        changedWhileNotKnown();
        lowIsLeast();
        greatestLikewise();
        oneHasItThen();
        lowAboveHigh();
        DUE.end();
    }

    private static void canBe(String when, SpanStore x, int low, int high) {
        DUE.is(when + ": LOW", x.about(0, 0, 4), low);
        DUE.is(when + ": HIGH", x.about(0, 0, 5), high);
    }

    private static void owed(String when, SpanStore x, int least, int greatest) {
        DUE.is(when + ": LEAST is OWED", x.about(0, 0, 6), least);
        DUE.is(when + ": GREATEST is OWED", x.about(0, 0, 7), greatest);
    }

    private static int[] row(int known, int value) {
        return new int[] {known, 0, value};
    }

    private static void lowAndHigh() {
        DUE.sentence("Terms", "ROWS that are not KNOWN have VALUES from LOW to HIGH: LEAST and GREATEST of it");
        canBe("none known", Stores.block(NO_KEEPERS, -1000, 3, 1000), -1000, 1000);
        canBe("one row", Stores.block(NO_KEEPERS, -8), -8, -8);
        canBe("above 0", Stores.block(NO_KEEPERS, 8, 3), 3, 8);
        canBe("below 0", Stores.block(NO_KEEPERS, -8, -3), -8, -3);
        canBe("both ends known", Stores.rows(row(KNOWN, -9), row(HIDDEN, 1), row(KNOWN, 9)), -9, 9);
        int[][] others = {{0, 12, 0}, {1, 1, 0}, {2, 3, 2}};
        canBe("keepers that are not heavy", Stores.block(others, 50, -60, 70), -60, 70);
    }

    private static void amountBelow() {
        DUE.sentence("Terms", "if its TABLE has HEAVY KEEPERS, of an amount below the least of their a");
        int[][] fifty = {{3, 50, 0}};
        canBe("ends just below a", Stores.block(fifty, -49, 0, 49), -49, 49);
        canBe("ends that are a", Stores.block(fifty, -50, 0, 50), -49, 49);
        canBe("ends above a", Stores.block(fifty, -51, 0, 51), -49, 49);
        canBe("only the greatest is a", Stores.block(fifty, 3, 4, 50), 3, 49);
        canBe("only the least is a", Stores.block(fifty, -50, -4, -3), -49, -3);
        canBe("HEAVY 1", Stores.block(new int[][] {{3, 1, 0}}, -1, 0, 1, 0), 0, 0);
        canBe("HEAVY 1000", Stores.block(new int[][] {{3, 1000, 0}}, -1000, 0, 1000), -999, 999);
        SpanStore x = new SpanStore();
        Due.values(x, 0, 0, -60, 0, 60);
        x.keeper(1, 3, 50, 0);
        x.seal(1);
        x.seal(0);
        canBe("the other TABLE has them", x, -60, 60);
        x.clear(1);
        x.clear(0);
        Due.values(x, 0, 0, -60, 0, 60);
        x.keeper(0, 3, 50, 0);
        x.seal(0);
        canBe("this TABLE has them", x, -49, 49);
        x.clear(0);
        Due.values(x, 0, 0, -60, 0, 60);
        x.seal(0);
        canBe("they were cleared", x, -60, 60);
    }

    private static void leastOfTheirs() {
        DUE.sentence("Terms", "the least of their a");
        canBe("the least first", Stores.block(new int[][] {{3, 20, 0}, {3, 50, 0}}, -60, 0, 60), -19, 19);
        canBe("the least last", Stores.block(new int[][] {{3, 50, 0}, {2, 9, 8}, {3, 20, 0}}, -60, 0, 60), -19, 19);
        int[][] four = {{3, 50, 0}, {3, 1000, 0}, {3, 21, 0}, {3, 20, 0}};
        canBe("the last of four", Stores.block(four, -60, 0, 60), -19, 19);
        int[][] first = {{3, 20, 0}, {3, 21, 0}, {3, 1000, 0}, {3, 20, 0}};
        canBe("the first of four", Stores.block(first, -60, 0, 60), -19, 19);
    }

    private static void owedIfNoneKnownHadIt() {
        DUE.sentence("Terms", "LEAST is OWED, if no ROW that was KNOWN");
        owed("none known", Stores.rows(row(HIDDEN, -5), row(HIDDEN, 0), row(HIDDEN, 5)), 1, 1);
        owed("between known", Stores.rows(row(HIDDEN, -5), row(KNOWN, 0), row(HIDDEN, 5)), 1, 1);
        owed("LEAST known", Stores.rows(row(KNOWN, -5), row(HIDDEN, 0), row(HIDDEN, 5)), 0, 1);
        owed("GREATEST known", Stores.rows(row(HIDDEN, -5), row(HIDDEN, 0), row(KNOWN, 5)), 1, 0);
        owed("both known", Stores.rows(row(KNOWN, -5), row(HIDDEN, 0), row(KNOWN, 5)), 0, 0);
        owed("LEAST known and not known", Stores.rows(row(HIDDEN, -5), row(KNOWN, -5), row(HIDDEN, 5)), 0, 1);
        owed("the last row is LEAST", Stores.rows(row(HIDDEN, 0), row(KNOWN, 1), row(KNOWN, -5)), 0, 0);
        owed("one row", Stores.rows(row(HIDDEN, 7)), 1, 1);
        owed("all alike, none known", Stores.rows(row(HIDDEN, 7), row(HIDDEN, 7)), 1, 1);
        owed("all alike, one known", Stores.rows(row(HIDDEN, 7), row(KNOWN, 7)), 0, 0);
        owed("no row", Stores.rows(), 0, 0);
        owed("all known", Stores.rows(row(KNOWN, -5), row(KNOWN, 5)), 0, 0);
        SpanStore x = Stores.rows(row(HIDDEN, -5), row(HIDDEN, 5));
        x.read(0, 0);
        owed("read", x, 0, 0);
    }

    private static void asSealedAheadOfChange() {
        DUE.sentence("Terms", "(as it was SEALED, ahead of a change of it)");
        SpanStore x = Stores.rows(row(KNOWN, -5), row(HIDDEN, 0), row(HIDDEN, 3), row(KNOWN, 5));
        x.change(0, 0, 0, 0);
        x.change(0, 0, 3, 0);
        owed("known ones that had it are changed", x, 0, 0);
        SpanStore y = Stores.rows(row(HIDDEN, -5), row(KNOWN, 0), row(HIDDEN, 5));
        y.change(0, 0, 1, -5);
        owed("a known one is changed to LEAST", y, 1, 1);
        y.change(0, 0, 1, 5);
        owed("a known one is changed to GREATEST", y, 1, 1);
        y.change(0, 0, 1, -1000);
        owed("a known one is changed beyond LEAST", y, 1, 1);
    }

    private static void changedWhileNotKnown() {
        DUE.sentence("Terms", "none of its ROWS was CHANGED while it was not KNOWN");
        int[][] rows = {row(HIDDEN, -5), row(KNOWN, 0), row(HIDDEN, 1), row(HIDDEN, 5)};
        SpanStore x = Stores.rows(rows);
        x.change(0, 0, 1, 3);
        owed("a known one was", x, 1, 1);
        x.change(0, 0, 2, 1);
        owed("one between, to what it had", x, 0, 0);
        SpanStore y = Stores.rows(rows);
        y.change(0, 0, 0, 0);
        owed("the one that was LEAST", y, 0, 0);
        SpanStore z = Stores.rows(rows);
        z.change(0, 0, 3, 5);
        owed("the one that is GREATEST, to what it had", z, 0, 0);
        z.change(0, 0, 3, 5);
        owed("again, as it is known", z, 0, 0);
        SpanStore w = new SpanStore();
        Due.values(w, 0, 0, -5, 5, 0);
        Due.values(w, 0, 1, -5, 5, 0);
        Due.values(w, 1, 0, -5, 5, 0);
        w.seal(0);
        w.seal(1);
        w.change(0, 1, 2, 0);
        w.change(1, 0, 2, 0);
        owed("one of another BLOCK, one of the other TABLE", w, 1, 1);
        DUE.is("in that BLOCK", w.about(0, 1, 6) + w.about(0, 1, 7), 0);
        w.clear(0);
        Due.values(w, 0, 1, -5, 5);
        w.seal(0);
        DUE.is("once the TABLE was cleared", w.about(0, 1, 6) + w.about(0, 1, 7), 2);
    }

    private static void lowIsLeast() {
        DUE.sentence("Terms", "LOW is LEAST");
        int[][] fifty = {{3, 50, 0}};
        owed("ends just below a", Stores.block(fifty, -49, 0, 49), 1, 1);
        owed("ends that are a", Stores.block(fifty, -50, 0, 50), 0, 0);
        owed("LEAST beyond, GREATEST just below", Stores.block(fifty, -50, 0, 49), 0, 1);
        owed("GREATEST beyond, LEAST just below", Stores.block(fifty, -49, 0, 50), 1, 0);
        SpanStore x = Stores.block(fifty, -50, 0, 50, -49, 49);
        owed("what LOW and HIGH are is there, but LEAST and GREATEST are beyond", x, 0, 0);
        x.change(0, 0, 0, 0);
        x.change(0, 0, 2, 0);
        owed("these are changed", x, 0, 0);
    }

    private static void greatestLikewise() {
        DUE.sentence("Terms", "GREATEST likewise with HIGH");
        owed("HEAVY 1 and a row of 0 below", Stores.block(new int[][] {{3, 1, 0}}, -1, 0), 0, 1);
        owed("HEAVY 1 and a row of 0 above", Stores.block(new int[][] {{3, 1, 0}}, 1, 0), 1, 0);
        owed("HEAVY 1 and rows of 0", Stores.block(new int[][] {{3, 1, 0}}, 0, 0), 1, 1);
        SpanStore x = Stores.rows(row(HIDDEN, 5), row(KNOWN, 4), row(HIDDEN, 3));
        x.change(0, 0, 1, 5);
        owed("GREATEST stays owed", x, 1, 1);
        x.change(0, 0, 2, 3);
        owed("LEAST changed while not KNOWN: neither", x, 0, 0);
    }

    private static void oneHasItThen() {
        DUE.sentence("Terms", "one of the ROWS that are not KNOWN has it then");
        SpanStore x = Stores.rows(row(KNOWN, 0), row(HIDDEN, -5), row(KNOWN, 1), row(HIDDEN, 6));
        owed("both", x, 1, 1);
        DUE.is("not yet told", x.value(0, 0, 1), Due.LEAST_INT);
        DUE.is("not yet told", x.value(0, 0, 3), Due.LEAST_INT);
        x.read(0, 0);
        DUE.is("LEAST", x.value(0, 0, 1), x.about(0, 0, 1));
        DUE.is("GREATEST", x.value(0, 0, 3), x.about(0, 0, 2));
        owed("all known", x, 0, 0);
        SpanStore y = Stores.rows(row(HIDDEN, -5), row(HIDDEN, 6));
        y.change(0, 0, 0, -5);
        y.change(0, 0, 1, 6);
        owed("the last one changed", y, 0, 0);
    }

    /** No row is hidden here, so the ends meet whatever LOW and HIGH would be. */
    private static void exact(String when, SpanStore x, int rows, int sum) {
        DUE.is(when + ": not known", x.about(0, 0, 3), 0);
        canBe(when, x, 0, 0);
        owed(when, x, 0, 0);
        DUE.is(when + ": known", x.told(8), rows);
        DUE.is(when + ": least sum", x.sum(0, -1, 0), sum);
        DUE.is(when + ": greatest sum", x.sum(0, -1, 1), sum);
        DUE.is(when + ": least count", x.count(0, 50, 0), x.count(0, 50, 1));
        DUE.is(when + ": next", x.next(0, -1), SpanStore.NONE);
    }

    private static void lowAboveHigh() {
        DUE.sentence("Terms", "(Where LOW is above HIGH no ROW is not KNOWN.)");
        exact("all above", Stores.block(new int[][] {{3, 50, 0}}, 50, 60, 1000), 3, 1110);
        exact("all below", Stores.block(new int[][] {{3, 50, 0}}, -50, -60, -1000), 3, -1110);
        exact("one that is a", Stores.block(new int[][] {{3, 50, 0}}, 50), 1, 50);
        exact("HEAVY 1", Stores.block(new int[][] {{3, 1, 0}}, 1, 1), 2, 2);
        exact("above and below: LOW is not above HIGH", Stores.block(new int[][] {{3, 50, 0}}, -50, 50), 2, 0);
        SpanStore x = Stores.block(new int[][] {{3, 50, 0}}, 50, 60);
        x.change(0, 0, 0, 0);
        exact("changed to less", x, 2, 60);
    }
}
