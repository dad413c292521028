import java.util.ArrayList;
import java.util.List;
import java.util.Random;

/** All promises: runs of 512 mixed calls, each answer against the Model's, digests and findings among them. */
public final class ModelTest {
    private static final int RUNS = 2500, CALLS = 512;
    private static final int[] ODD = {
        Integer.MIN_VALUE, Integer.MAX_VALUE, -1, -2, 4, 8, 12, 13, 40, 41, 100, 101, 1000, 1001, -1000, -1001, 1000001,
    };

    private final Random random;
    private final SpanStore store = new SpanStore();
    private final Model model = new Model();
    /** Most numbers stay small in some runs, so that ends are met often. */
    private final int reach;
    private final int blocks;
    private final List<String> log = new ArrayList<>();
    private int asked;
    private boolean wrong;

    private ModelTest(long seed) {
        random = new Random(seed);
        int[] reaches = {1, 3, 30, 1000};
        reach = reaches[random.nextInt(reaches.length)];
        blocks = 1 + random.nextInt(8);
    }

    public static void main(String[] args) {
        int wrongRuns = 0;
        for (int seed = 1; seed <= RUNS && wrongRuns < 5; seed++) {
            ModelTest run = new ModelTest(seed);
            run.calls();
            if (run.wrong) {
                wrongRuns++;
                System.out.println("run " + seed + ": .. " + String.join("; ", run.log.subList(Math.max(0, run.log.size() - 8), run.log.size())));
            }
        }
        System.out.println(RUNS + " runs, " + wrongRuns + " not as due");
        if (wrongRuns != 0) {
            System.exit(1);
        }
    }

    /** A turn asks three times at most, and no object is asked more often than the document lets it be. */
    private void calls() {
        for (int turn = 0; asked <= CALLS - 3 && !wrong; turn++) {
            call(random.nextInt(100));
            if (turn % 2 == 0) {
                due("told(3)", store.told(3), model.told(3));
            }
            if (turn % 8 == 0) {
                due("digest()", store.digest(), model.digest());
            }
        }
    }

    private void due(String call, long got, long want) {
        asked++;
        log.add(call + " answered " + got);
        if (got != want && !wrong) {
            wrong = true;
            log.add("due was " + want);
        }
    }

    private int from(int least, int greatest) {
        return random.nextInt(60) == 0 ? ODD[random.nextInt(ODD.length)] : least + random.nextInt(greatest - least + 1);
    }

    private int table() {
        return from(0, 1);
    }

    private int block() {
        return from(0, blocks - 1);
    }

    private int sheet() {
        return from(0, 3);
    }

    private int value() {
        return from(-reach, reach);
    }

    private int key() {
        return random.nextBoolean() ? from(0, 5) : from(0, 99);
    }

    private int remainder(int a) {
        return from(0, Math.min(Math.max(a, 1), 100) - 1);
    }

    private void call(int pick) {
        if (pick < 30) {
            fill(pick);
        } else if (pick < 45) {
            alter(pick);
        } else if (pick < 70) {
            ask(pick);
        } else {
            useSheets(pick);
        }
    }

    private void fill(int pick) {
        if (pick < 17) {
            int t = table(), b = block(), k = key(), g = from(0, 3), v = value();
            due("row " + t + " " + b + " " + k + " " + g + " " + v, store.row(t, b, k, g, v), model.row(t, b, k, g, v));
        } else if (pick < 22) {
            int t = table(), b = block(), k = sheet(), g = sheet(), v = sheet(), n = from(1, 6);
            String call = "load " + t + " " + b + " " + k + " " + g + " " + v + " " + n;
            due(call, store.load(t, b, k, g, v, n), model.load(t, b, k, g, v, n));
        } else if (pick < 25) {
            int t = table(), kind = from(0, 3);
            int a = kind == 3 ? from(1, reach) : random.nextBoolean() ? from(1, 4) : from(1, 12);
            int b = kind == 2 ? remainder(a) : from(0, 0);
            due("keeper " + t + " " + kind + " " + a + " " + b, store.keeper(t, kind, a, b), model.keeper(t, kind, a, b));
        } else if (pick < 28) {
            int t = table();
            boolean early = t >= 0 && t < 2 && model.told(t) < 15 && random.nextInt(4) > 0;
            if (!early) {
                due("seal " + t, store.seal(t), model.seal(t));
            }
        } else if (random.nextInt(4) == 0) {
            int t = table();
            due("clear " + t, store.clear(t), model.clear(t));
        }
    }

    private void alter(int pick) {
        if (pick < 33) {
            int t = table(), b = block();
            due("read " + t + " " + b, store.read(t, b), model.read(t, b));
        } else if (pick < 40) {
            int t = table(), b = block(), r = from(0, 5), v = value();
            due("change " + t + " " + b + " " + r + " " + v, store.change(t, b, r, v), model.change(t, b, r, v));
        } else if (pick < 42) {
            int t = table(), g = from(-1, 3), apart = from(0, 6 * reach);
            due("refine " + t + " " + g + " " + apart, store.refine(t, g, apart), model.refine(t, g, apart));
        } else {
            int t = table(), b = block(), r = from(0, 6);
            due("value " + t + " " + b + " " + r, store.value(t, b, r), model.value(t, b, r));
        }
    }

    private void ask(int pick) {
        int t = table(), g = from(-1, 3), end = from(0, 1);
        if (pick < 50) {
            int b = block(), what = from(0, 14);
            due("about " + t + " " + b + " " + what, store.about(t, b, what), model.about(t, b, what));
        } else if (pick < 56) {
            due("sum " + t + " " + g + " " + end, store.sum(t, g, end), model.sum(t, g, end));
        } else if (pick < 60) {
            int x = value();
            due("count " + t + " " + x + " " + end, store.count(t, x, end), model.count(t, x, end));
        } else if (pick < 63) {
            due("join " + end, store.join(end), model.join(end));
        } else if (pick < 65) {
            int a = from(1, 4), b = remainder(a);
            due("part " + a + " " + b, store.part(a, b), model.part(a, b));
        } else if (pick < 68) {
            due("next " + t + " " + g, store.next(t, g), model.next(t, g));
        } else {
            int what = from(0, 10);
            due("told " + what, store.told(what), model.told(what));
        }
    }

    private void useSheets(int pick) {
        int s = sheet(), form = from(0, 2), i = from(0, 6);
        if (pick < 74) {
            int n = random.nextInt(4) == 0 ? from(-1, 40) : from(5, 8);
            due("sheet " + s + " " + form + " " + n, store.sheet(s, form, n), model.sheet(s, form, n));
        } else if (pick < 75) {
            due("lose " + s, store.lose(s), model.lose(s));
        } else if (pick < 82) {
            int v = random.nextInt(3) == 0 ? from(-70000, 70000) : from(0, 3);
            due("put " + s + " " + form + " " + i + " " + v, store.put(s, form, i, v), model.put(s, form, i, v));
        } else if (pick < 91) {
            due("get " + s + " " + form + " " + i, store.get(s, form, i), model.get(s, form, i));
        } else if (pick < 96) {
            int t = random.nextBoolean() ? s : sheet(), j = from(0, 6), n = from(0, 5);
            String call = "copy " + s + " " + i + " " + t + " " + j + " " + n;
            due(call, store.copy(s, i, t, j, n), model.copy(s, i, t, j, n));
        } else {
            int t = table(), g = sheet(), v = sheet();
            due("write " + t + " " + s + " " + g + " " + v, store.write(t, s, g, v), model.write(t, s, g, v));
        }
    }
}
