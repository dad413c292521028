import java.util.ArrayList;
import java.util.List;

/**
 * Every answer by which two objects can be told apart, but told(3). Taking it uses the object up: tables are
 * sealed and read, sheets are lost. It takes less than 400 calls, so that the object may have had 100 before.
 */
final class Photo {
    private final SpanStore x;
    private final List<String> answers = new ArrayList<>();

    private Photo(SpanStore x) {
        this.x = x;
    }

    static List<String> of(SpanStore x) {
        Photo photo = new Photo(x);
        photo.state();
        photo.sheets();
        photo.spans();
        photo.whatWasHidden();
        return photo.answers;
    }

    private void add(String call, long answer) {
        answers.add(call + " " + answer);
    }

    private void state() {
        for (int what = 0; what <= 9; what++) {
            if (what != 3) {
                add("told(" + what + ")", x.told(what));
            }
        }
        add("digest()", x.digest());
    }

    /** Each sheet's form, items and length; no item that is asked for here is the least int. */
    private void sheets() {
        for (int s = 0; s < 4; s++) {
            for (int form = 0; form < 3; form++) {
                items(s, form);
            }
            add("lose(" + s + ")", x.lose(s));
        }
    }

    private void items(int s, int form) {
        boolean there = true;
        for (int i = 0; there && i < 14; i++) {
            String call = "get(" + s + ", " + form + ", " + i + ")";
            long item = x.get(s, form, i);
            there = item != Due.LEAST_INT;
            add(there ? call : call + " told(3)", there ? item : x.told(3));
        }
    }

    /** An open table is sealed first: what its keepers keep tells which they are. */
    private void spans() {
        for (int table = 0; table < 2; table++) {
            add("seal(" + table + ")", x.seal(table));
            for (int group = 0; group < 4; group++) {
                add("sum(" + table + ", " + group + ", 0)", x.sum(table, group, 0));
                add("sum(" + table + ", " + group + ", 1)", x.sum(table, group, 1));
            }
        }
        add("digest() sealed", x.digest());
        add("join(0)", x.join(0));
        add("join(1)", x.join(1));
    }

    private void whatWasHidden() {
        for (int table = 0; table < 2; table++) {
            for (int block = 0; block < 8; block++) {
                add("read(" + table + ", " + block + ")", x.read(table, block));
            }
        }
        add("digest() read", x.digest());
        x.sheet(0, 0, 40);
        x.sheet(1, 0, 40);
        x.sheet(2, 2, 40);
        for (int table = 0; table < 2; table++) {
            int rows = x.write(table, 0, 1, 2);
            add("write(" + table + ", 0, 1, 2)", rows);
            for (int i = 0; i < rows; i++) {
                add("key " + i + " of table " + table, x.get(0, 0, i));
                add("group " + i + " of table " + table, x.get(1, 0, i));
            }
        }
    }
}
