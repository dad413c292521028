import java.util.List;

/**
 * Counts the answers of one test class, prints those that are not due, and ends it with 1 if there was one.
 * Where tests go by sentences of the document, an answer counts for the sentence that was told last.
 */
final class Due {
    static final int LEAST_INT = Integer.MIN_VALUE;
    static final long LEAST_LONG = Long.MIN_VALUE;
    static final int NULL = -11, INDEX = -12, CAST = -13, STORE = -14, SIZE = -15;

    private int asked;
    private int wrong;
    private int sentences;
    private int askedBefore;
    private String sentence = "";

    /** The next answers are those of one sentence: where it stands, and its own words. */
    void sentence(String where, String words) {
        closeSentence();
        sentence = where + " \"" + words + "\": ";
        sentences++;
        askedBefore = asked;
    }

    void is(String call, long got, long want) {
        asked++;
        if (got != want) {
            wrong++;
            System.out.println(sentence + call + " answered " + got + ", due is " + want);
        }
    }

    void holds(String what, boolean fact) {
        is(what, fact ? 1 : 0, 1);
    }

    /** Two lists of calls with their answers, as a Photo has them. */
    void same(String what, List<String> got, List<String> want) {
        int i = 0;
        while (i < got.size() && i < want.size() && got.get(i).equals(want.get(i))) {
            i++;
        }
        boolean alike = i == got.size() && i == want.size();
        String first = i < got.size() && i < want.size() ? got.get(i) + ", not " + want.get(i) : "as many answers";
        holds(alike ? what : what + " (" + first + ")", alike);
    }

    void end() {
        closeSentence();
        String of = sentences > 0 ? " of " + sentences + " sentences" : "";
        System.out.println(asked + " answers" + of + ", " + wrong + " not as due");
        if (asked == 0 || wrong != 0) {
            System.exit(1);
        }
    }

    private void closeSentence() {
        if (sentences > 0 && asked == askedBefore) {
            wrong++;
            System.out.println(sentence + "nothing was asked");
        }
    }

    /** All of a table's rows, all told by one array of key, group, value for each. */
    static void rows(SpanStore x, int table, int block, int[][] rows) {
        for (int[] r : rows) {
            x.row(table, block, r[0], r[1], r[2]);
        }
    }

    static void values(SpanStore x, int table, int block, int... values) {
        for (int v : values) {
            x.row(table, block, 0, 0, v);
        }
    }
}
