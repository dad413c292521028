import java.util.function.Supplier;
import java.util.function.ToLongFunction;

/** Looks at refused calls: their answer, told(3) behind them, and that nothing else tells them from a twin. */
final class Refusals {
    /** Before any finding, and behind a SIZE: a refusal that is no finding leaves either. */
    private static final int[] EARLIER = {0, 5};

    private final Due due;

    Refusals(Due due) {
        this.due = due;
    }

    void refused(String call, Supplier<SpanStore> maker, ToLongFunction<SpanStore> asked, long answer) {
        boolean isFinding = answer <= Due.NULL && answer >= Due.SIZE;
        refused(call, maker, asked, answer, isFinding ? (int) (-10 - answer) : 0);
    }

    /** The same where the answer does not tell the finding; 0 if it is none. */
    void refused(String call, Supplier<SpanStore> maker, ToLongFunction<SpanStore> asked, long answer, int finding) {
        for (int earlier : EARLIER) {
            SpanStore x = maker.get();
            SpanStore twin = maker.get();
            if (earlier != 0) {
                x.sheet(0, 0, -1);
                twin.sheet(0, 0, -1);
            }
            ask(call, asked, x, answer);
            due.is(call + ": told(3)", x.told(3), finding == 0 ? earlier : finding);
            due.same(call + ": nothing changes", Photo.of(x), Photo.of(twin));
        }
    }

    /** A call that throws is told with its sentence, so that those behind it are still looked at. */
    private void ask(String call, ToLongFunction<SpanStore> asked, SpanStore x, long answer) {
        try {
            due.is(call, asked.applyAsLong(x), answer);
        } catch (RuntimeException thrown) {
            due.holds(call + " threw " + thrown, false);
        }
    }
}
